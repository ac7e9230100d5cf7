-- DriverBookModel.setTo(II)I
def f_X12_setTo_8 (k : Int32 → Int32 → Int32 → Int32 → mH → Option (Int32 × mH))  : Nat → Int32 → Int32 → Int32 → Int32 → mH → Option (Int32 × mH)
  | 0, _, _, _, _, _ => none
  | n + 1, v1, v2, v3, v4, h =>
    if mIn v1 6 = true then
    if v4 < ((12 * v1) + (h.1 58 0 v1.toNatClampNeg)) then
      if mIn v4 72 = true then
      if (h.1 59 0 v4.toNatClampNeg) = 0 then
        if (h.1 60 0 v4.toNatClampNeg) = v2 then
          f_X12_setTo_8 k  n v1 v2 (h.1 61 0 v4.toNatClampNeg) (v4 + 1) h
        else
          f_X12_setTo_8 k  n v1 v2 v3 (v4 + 1) h
      else
        f_X12_setTo_8 k  n v1 v2 v3 (v4 + 1) h
      else none
    else
      k v1 v2 v3 v4 h
    else none
def f_X12_setTo (x1 : Int32) (x2 : Int32) (h : mH) : Option (Int32 × mH) :=
  f_X12_setTo_8 (fun u6 u7 u8 u9 h10 =>
    some (u8, h10))  mFu x1 x2 (-1) (12 * x1) h
set_option maxRecDepth 20000 in
theorem sf_X12_setTo_8 (G : mG) (X : mX)   (k : Int32 → Int32 → Int32 → Int32 → mH → Option (Int32 × mH)) (hk : ∀ (v1 : Int32) (v2 : Int32) (v3 : Int32) (v4 : Int32) (h : mH), Sim G X cX12_setTo 5 RX12 (some .int) (mRoom 0 0) eI (k v1 v2 v3 v4 h) 63 [(0, .inr (.inr (12, 0))), (1, .inl v1), (2, .inl v2), (3, .inl v3), (4, .inl v4)] [] h) (n : Nat) : ∀ (v1 : Int32) (v2 : Int32) (v3 : Int32) (v4 : Int32) (h : mH), Sim G X cX12_setTo 5 RX12 (some .int) (mRoom 0 0) eI (f_X12_setTo_8 k  n v1 v2 v3 v4 h) 8 [(0, .inr (.inr (12, 0))), (1, .inl v1), (2, .inl v2), (3, .inl v3), (4, .inl v4)] [] h := by
  induction n with
  | zero =>
    intro v1 v2 v3 v4 h
    exact s_none
  | succ n ih =>
    intro v1 v2 v3 v4 h
    unfold f_X12_setTo_8
    refine s_iload 4 rfl dX12_setTo_8 ?_
    refine s_bip 12 kb_12 dX12_setTo_10 ?_
    refine s_iload1 1 rfl dX12_setTo_12 ?_
    refine s_imul dX12_setTo_13 ?_
    refine s_aload0 0 rfl dX12_setTo_14 ?_
    refine s_gr (gR_RX12_50 0) dX12_setTo_15 ?_
    refine s_iload1 1 rfl dX12_setTo_18 ?_
    refine s_chk (fun q1 => ?_)
    refine s_ial aT_58 q1 dX12_setTo_19 ?_
    refine s_iadd dX12_setTo_20 ?_
    refine s_ic_ge (tgt := 63) dX12_setTo_21 (by decide) (fun q2 => ?_) (fun q2 => ?_)
    · skip
      exact s_loc [0, 1, 2, 3, 4] rfl (hk v1 v2 v3 v4 h)
    · skip
      refine s_aload0 0 rfl dX12_setTo_24 ?_
      refine s_gr (gR_RX12_53 0) dX12_setTo_25 ?_
      refine s_iload 4 rfl dX12_setTo_28 ?_
      refine s_chk (fun q3 => ?_)
      refine s_ial aT_59 q3 dX12_setTo_30 ?_
      refine s_if_ne (tgt := 55) dX12_setTo_31 (by decide) (fun q4 => ?_) (fun q4 => ?_)
      · skip
        refine s_iload3 3 rfl dX12_setTo_55 ?_
        refine s_istore3 [(3, .inl v3), (0, .inr (.inr (12, 0))), (1, .inl v1), (2, .inl v2), (4, .inl v4)] rfl rfl dX12_setTo_56 ?_
        refine s_iincw 1 (by decide) 4 [(4, .inl (v4 + 1)), (3, .inl v3), (0, .inr (.inr (12, 0))), (1, .inl v1), (2, .inl v2)] rfl rfl rfl dX12_setTo_57 ?_
        refine s_goto (tgt := 8) dX12_setTo_60 (by decide) ?_
        exact s_loc [2, 3, 4, 1, 0] rfl (ih v1 v2 v3 (v4 + 1) h)
      · skip
        refine s_aload0 0 rfl dX12_setTo_34 ?_
        refine s_gr (gR_RX12_56 0) dX12_setTo_35 ?_
        refine s_iload 4 rfl dX12_setTo_38 ?_
        refine s_ial aT_60 q3 dX12_setTo_40 ?_
        refine s_iload2 2 rfl dX12_setTo_41 ?_
        refine s_ic_ne (tgt := 55) dX12_setTo_42 (by decide) (fun q5 => ?_) (fun q5 => ?_)
        · skip
          refine s_iload3 3 rfl dX12_setTo_55 ?_
          refine s_istore3 [(3, .inl v3), (0, .inr (.inr (12, 0))), (1, .inl v1), (2, .inl v2), (4, .inl v4)] rfl rfl dX12_setTo_56 ?_
          refine s_iincw 1 (by decide) 4 [(4, .inl (v4 + 1)), (3, .inl v3), (0, .inr (.inr (12, 0))), (1, .inl v1), (2, .inl v2)] rfl rfl rfl dX12_setTo_57 ?_
          refine s_goto (tgt := 8) dX12_setTo_60 (by decide) ?_
          exact s_loc [2, 3, 4, 1, 0] rfl (ih v1 v2 v3 (v4 + 1) h)
        · skip
          refine s_aload0 0 rfl dX12_setTo_45 ?_
          refine s_gr (gR_RX12_59 0) dX12_setTo_46 ?_
          refine s_iload 4 rfl dX12_setTo_49 ?_
          refine s_ial aT_61 q3 dX12_setTo_51 ?_
          refine s_goto (tgt := 56) dX12_setTo_52 (by decide) ?_
          refine s_istore3 [(3, .inl (h.1 61 0 v4.toNatClampNeg)), (0, .inr (.inr (12, 0))), (1, .inl v1), (2, .inl v2), (4, .inl v4)] rfl rfl dX12_setTo_56 ?_
          refine s_iincw 1 (by decide) 4 [(4, .inl (v4 + 1)), (3, .inl (h.1 61 0 v4.toNatClampNeg)), (0, .inr (.inr (12, 0))), (1, .inl v1), (2, .inl v2)] rfl rfl rfl dX12_setTo_57 ?_
          refine s_goto (tgt := 8) dX12_setTo_60 (by decide) ?_
          exact s_loc [2, 3, 4, 1, 0] rfl (ih v1 v2 (h.1 61 0 v4.toNatClampNeg) (v4 + 1) h)
set_option maxRecDepth 20000 in
theorem sf_X12_setTo (G : mG) (X : mX) (x1 : Int32) (x2 : Int32)  (h : mH) : Sim G X cX12_setTo 5 RX12 (some .int) (mRoom 0 0) eI (f_X12_setTo x1 x2 h) 0 [(0, .inr (.inr (12, 0))), (1, .inl x1), (2, .inl x2)] [] h := by
  unfold f_X12_setTo
  refine s_km1 dX12_setTo_0 ?_
  refine s_istore3 [(3, .inl (-1)), (0, .inr (.inr (12, 0))), (1, .inl x1), (2, .inl x2)] rfl rfl dX12_setTo_1 ?_
  refine s_bip 12 kb_12 dX12_setTo_2 ?_
  refine s_iload1 2 rfl dX12_setTo_4 ?_
  refine s_imul dX12_setTo_5 ?_
  refine s_istorew [(4, .inl (12 * x1)), (3, .inl (-1)), (0, .inr (.inr (12, 0))), (1, .inl x1), (2, .inl x2)] rfl rfl dX12_setTo_6 ?_
  refine s_loc [2, 3, 4, 1, 0] rfl ?_
  refine sf_X12_setTo_8 G X  _ (fun u6 u7 u8 u9 h10 => ?_) mFu x1 x2 (-1) (12 * x1) h
  · skip
    refine s_iload3 3 rfl dX12_setTo_63 ?_
    exact s_ireturn rfl rfl dX12_setTo_64
set_option maxRecDepth 20000 in
theorem cf_X12_setTo (G : mG) (l : Launch) (x1 : Int32) (x2 : Int32)  (h : mH) (b : Int32 × mH) (hb : f_X12_setTo x1 x2 h = some b) (hl : ∀ v ∈ ([.inr (.inr (12, 0)), .inl x1, .inl x2] : List mV), mLi v) : mMet G l yX12_setTo cX12_setTo 5 (some .int) (mRoom 0 0) [.inr (.inr (12, 0)), .inl x1, .inl x2] h (eI b) :=
  mMet.of (y := yX12_setTo) (as := [.inr (.inr (12, 0)), .inl x1, .inl x2]) (by decide +kernel) (Nat.le_of_ble_eq_true rfl) (fun X => sf_X12_setTo G X x1 x2  h) hl b hb
-- DriverBookModel.astray(II)I
def f_X12_astray_2 (k : Int32 → Int32 → Int32 → mH → Option (Int32 × mH))  : Nat → Int32 → Int32 → Int32 → mH → Option (Int32 × mH)
  | 0, _, _, _, _ => none
  | n + 1, v1, v2, v3, h =>
    if v3 < (h.1 12 0 2) then
      if mIn v3 24 = true then
      if (h.1 49 0 v3.toNatClampNeg) = 5 then
        if mIn (144 + v3) 192 = true then
        (f_X12_setTo v1 v3 h).bind fun r23 =>
        (f_X12_setTo v2 v3 r23.2).bind fun r24 =>
        if r23.1 = (-1) then
          if r24.1 = (-1) then
            if (h.1 64 0 v3.toNatClampNeg) = (h.1 74 0 (144 + v3).toNatClampNeg) then
              f_X12_astray_2 k  n v1 v2 (v3 + 1) r24.2
            else
              some (v3, r24.2)
          else
            if (h.1 64 0 v3.toNatClampNeg) = r24.1 then
              f_X12_astray_2 k  n v1 v2 (v3 + 1) r24.2
            else
              some (v3, r24.2)
        else
          if (h.1 64 0 v3.toNatClampNeg) = r23.1 then
            f_X12_astray_2 k  n v1 v2 (v3 + 1) r24.2
          else
            if r24.1 = (-1) then
              some (v3, r24.2)
            else
              if (h.1 64 0 v3.toNatClampNeg) = r24.1 then
                f_X12_astray_2 k  n v1 v2 (v3 + 1) r24.2
              else
                some (v3, r24.2)
        else none
      else
        if mIn (144 + v3) 192 = true then
        (f_X12_setTo v1 v3 h).bind fun r5 =>
        (f_X12_setTo v2 v3 r5.2).bind fun r6 =>
        if r5.1 = (-1) then
          if r6.1 = (-1) then
            if (h.1 63 0 v3.toNatClampNeg) = (h.1 73 0 (144 + v3).toNatClampNeg) then
              if (r6.2.1 49 0 v3.toNatClampNeg) = 0 then
                f_X12_astray_2 k  n v1 v2 (v3 + 1) r6.2
              else
                f_X12_astray_2 k  n v1 v2 (v3 + 1) r6.2
            else
              if (r6.2.1 49 0 v3.toNatClampNeg) = 0 then
                some (v3, r6.2)
              else
                f_X12_astray_2 k  n v1 v2 (v3 + 1) r6.2
          else
            if (h.1 63 0 v3.toNatClampNeg) = r6.1 then
              if (r6.2.1 49 0 v3.toNatClampNeg) = 0 then
                f_X12_astray_2 k  n v1 v2 (v3 + 1) r6.2
              else
                f_X12_astray_2 k  n v1 v2 (v3 + 1) r6.2
            else
              if (r6.2.1 49 0 v3.toNatClampNeg) = 0 then
                some (v3, r6.2)
              else
                f_X12_astray_2 k  n v1 v2 (v3 + 1) r6.2
        else
          if (h.1 63 0 v3.toNatClampNeg) = r5.1 then
            if (r6.2.1 49 0 v3.toNatClampNeg) = 0 then
              f_X12_astray_2 k  n v1 v2 (v3 + 1) r6.2
            else
              f_X12_astray_2 k  n v1 v2 (v3 + 1) r6.2
          else
            if r6.1 = (-1) then
              if (r6.2.1 49 0 v3.toNatClampNeg) = 0 then
                some (v3, r6.2)
              else
                f_X12_astray_2 k  n v1 v2 (v3 + 1) r6.2
            else
              if (h.1 63 0 v3.toNatClampNeg) = r6.1 then
                if (r6.2.1 49 0 v3.toNatClampNeg) = 0 then
                  f_X12_astray_2 k  n v1 v2 (v3 + 1) r6.2
                else
                  f_X12_astray_2 k  n v1 v2 (v3 + 1) r6.2
              else
                if (r6.2.1 49 0 v3.toNatClampNeg) = 0 then
                  some (v3, r6.2)
                else
                  f_X12_astray_2 k  n v1 v2 (v3 + 1) r6.2
        else none
      else none
    else
      k v1 v2 v3 h
def f_X12_astray (x1 : Int32) (x2 : Int32) (h : mH) : Option (Int32 × mH) :=
  f_X12_astray_2 (fun u32 u33 u34 h35 =>
    some ((-1), h35))  mFu x1 x2 0 h
set_option maxRecDepth 20000 in
theorem sf_X12_astray_2 (G : mG) (X : mX)   (k : Int32 → Int32 → Int32 → mH → Option (Int32 × mH)) (hk : ∀ (v1 : Int32) (v2 : Int32) (v3 : Int32) (h : mH), Sim G X cX12_astray 10 RX12 (some .int) (mRoom 1 24) eI (k v1 v2 v3 h) 182 [(0, .inr (.inr (12, 0))), (1, .inl v1), (2, .inl v2), (3, .inl v3)] [] h) (n : Nat) : ∀ (v1 : Int32) (v2 : Int32) (v3 : Int32) (h : mH), Sim G X cX12_astray 10 RX12 (some .int) (mRoom 1 24) eI (f_X12_astray_2 k  n v1 v2 v3 h) 2 [(0, .inr (.inr (12, 0))), (1, .inl v1), (2, .inl v2), (3, .inl v3)] [] h := by
  induction n with
  | zero =>
    intro v1 v2 v3 h
    exact s_none
  | succ n ih =>
    intro v1 v2 v3 h
    unfold f_X12_astray_2
    refine s_iload3 3 rfl dX12_astray_2 ?_
    refine s_aload0 0 rfl dX12_astray_3 ?_
    refine s_gi gI_RX12_181 dX12_astray_4 ?_
    refine s_ic_ge (tgt := 182) dX12_astray_7 (by decide) (fun q1 => ?_) (fun q1 => ?_)
    · skip
      exact s_loc [0, 1, 2, 3] rfl (hk v1 v2 v3 h)
    · skip
      refine s_aload0 0 rfl dX12_astray_10 ?_
      refine s_gr (gR_RX12_23 0) dX12_astray_11 ?_
      refine s_iload3 3 rfl dX12_astray_14 ?_
      refine s_chk (fun q2 => ?_)
      refine s_ial aT_49 q2 dX12_astray_15 ?_
      refine s_k5 dX12_astray_16 ?_
      refine s_ic_ne (tgt := 24) dX12_astray_17 (by decide) (fun q3 => ?_) (fun q3 => ?_)
      · skip
        refine s_k0 dX12_astray_24 ?_
        refine s_istorew [(4, .inl 0), (0, .inr (.inr (12, 0))), (1, .inl v1), (2, .inl v2), (3, .inl v3)] rfl rfl dX12_astray_25 ?_
        refine s_iload 0 rfl dX12_astray_27 ?_
        refine s_if_eq_P (tgt := 41) (by decide) dX12_astray_29 (by decide) ?_
        refine s_aload0 1 rfl dX12_astray_41 ?_
        refine s_gr (gR_RX12_68 0) dX12_astray_42 ?_
        refine s_iload3 4 rfl dX12_astray_45 ?_
        refine s_ial aT_63 q2 dX12_astray_46 ?_
        refine s_istorew [(5, .inl (h.1 63 0 v3.toNatClampNeg)), (4, .inl 0), (0, .inr (.inr (12, 0))), (1, .inl v1), (2, .inl v2), (3, .inl v3)] rfl rfl dX12_astray_47 ?_
        refine s_iload 1 rfl dX12_astray_49 ?_
        refine s_if_eq_P (tgt := 67) (by decide) dX12_astray_51 (by decide) ?_
        refine s_aload0 2 rfl dX12_astray_67 ?_
        refine s_gr (gR_RX12_98 0) dX12_astray_68 ?_
        refine s_sip 144 ks_144 dX12_astray_71 ?_
        refine s_iload3 5 rfl dX12_astray_74 ?_
        refine s_iadd dX12_astray_75 ?_
        refine s_chk (fun q4 => ?_)
        refine s_ial aT_73 q4 dX12_astray_76 ?_
        refine s_istorew [(6, .inl (h.1 73 0 (144 + v3).toNatClampNeg)), (5, .inl (h.1 63 0 v3.toNatClampNeg)), (4, .inl 0), (0, .inr (.inr (12, 0))), (1, .inl v1), (2, .inl v2), (3, .inl v3)] rfl rfl dX12_astray_77 ?_
        refine s_aload0 3 rfl dX12_astray_79 ?_
        refine s_iload1 4 rfl dX12_astray_80 ?_
        refine s_iload3 6 rfl dX12_astray_81 ?_
        refine s_viI [.inl v1, .inl v3] (fun l b hb hl => cf_X12_setTo G l v1 v3 h b hb hl) me_X12_setTo vi_RX12_327 rfl rfl rfl rfl rfl dX12_astray_82 (fun r5 => ?_)
        refine s_istorew [(7, .inl r5.1), (6, .inl (h.1 73 0 (144 + v3).toNatClampNeg)), (5, .inl (h.1 63 0 v3.toNatClampNeg)), (4, .inl 0), (0, .inr (.inr (12, 0))), (1, .inl v1), (2, .inl v2), (3, .inl v3)] rfl rfl dX12_astray_85 ?_
        refine s_aload0 4 rfl dX12_astray_87 ?_
        refine s_iload2 6 rfl dX12_astray_88 ?_
        refine s_iload3 7 rfl dX12_astray_89 ?_
        refine s_viI [.inl v2, .inl v3] (fun l b hb hl => cf_X12_setTo G l v2 v3 r5.2 b hb hl) me_X12_setTo vi_RX12_327 rfl rfl rfl rfl rfl dX12_astray_90 (fun r6 => ?_)
        refine s_istorew [(8, .inl r6.1), (7, .inl r5.1), (6, .inl (h.1 73 0 (144 + v3).toNatClampNeg)), (5, .inl (h.1 63 0 v3.toNatClampNeg)), (4, .inl 0), (0, .inr (.inr (12, 0))), (1, .inl v1), (2, .inl v2), (3, .inl v3)] rfl rfl dX12_astray_93 ?_
        refine s_iload 1 rfl dX12_astray_95 ?_
        refine s_km1 dX12_astray_97 ?_
        refine s_ic_ne (tgt := 122) dX12_astray_98 (by decide) (fun q7 => ?_) (fun q7 => ?_)
        · skip
          refine s_iload 1 rfl dX12_astray_122 ?_
          refine s_km1 dX12_astray_124 ?_
          refine s_ic_eq_N (tgt := 135) q7 dX12_astray_125 (by decide) ?_
          refine s_iload 3 rfl dX12_astray_128 ?_
          refine s_iload 1 rfl dX12_astray_130 ?_
          refine s_ic_eq (tgt := 148) dX12_astray_132 (by decide) (fun q8 => ?_) (fun q8 => ?_)
          · skip
            refine s_k1 dX12_astray_148 ?_
            refine s_goto (tgt := 153) dX12_astray_149 (by decide) ?_
            refine s_istorew [(9, .inl 1), (8, .inl r6.1), (7, .inl r5.1), (6, .inl (h.1 73 0 (144 + v3).toNatClampNeg)), (5, .inl (h.1 63 0 v3.toNatClampNeg)), (4, .inl 0), (0, .inr (.inr (12, 0))), (1, .inl v1), (2, .inl v2), (3, .inl v3)] rfl rfl dX12_astray_153 ?_
            refine s_iload 5 rfl dX12_astray_155 ?_
            refine s_if_ne_P (tgt := 169) (by decide) dX12_astray_157 (by decide) ?_
            refine s_aload0 6 rfl dX12_astray_160 ?_
            refine s_gr (gR_RX12_23 0) dX12_astray_161 ?_
            refine s_iload3 9 rfl dX12_astray_164 ?_
            refine s_ial aT_49 q2 dX12_astray_165 ?_
            refine s_if_ne (tgt := 176) dX12_astray_166 (by decide) (fun q9 => ?_) (fun q9 => ?_)
            · skip
              refine s_iincw 1 (by decide) 9 [(3, .inl (v3 + 1)), (9, .inl 1), (8, .inl r6.1), (7, .inl r5.1), (6, .inl (h.1 73 0 (144 + v3).toNatClampNeg)), (5, .inl (h.1 63 0 v3.toNatClampNeg)), (4, .inl 0), (0, .inr (.inr (12, 0))), (1, .inl v1), (2, .inl v2)] rfl rfl rfl dX12_astray_176 ?_
              refine s_goto (tgt := 2) dX12_astray_179 (by decide) ?_
              exact s_loc [7, 8, 9, 0] rfl (ih v1 v2 (v3 + 1) r6.2)
            · skip
              refine s_iload 0 rfl dX12_astray_169 ?_
              refine s_if_ne_N (tgt := 176) (by decide) dX12_astray_171 (by decide) ?_
              refine s_iincw 1 (by decide) 9 [(3, .inl (v3 + 1)), (9, .inl 1), (8, .inl r6.1), (7, .inl r5.1), (6, .inl (h.1 73 0 (144 + v3).toNatClampNeg)), (5, .inl (h.1 63 0 v3.toNatClampNeg)), (4, .inl 0), (0, .inr (.inr (12, 0))), (1, .inl v1), (2, .inl v2)] rfl rfl rfl dX12_astray_176 ?_
              refine s_goto (tgt := 2) dX12_astray_179 (by decide) ?_
              exact s_loc [7, 8, 9, 0] rfl (ih v1 v2 (v3 + 1) r6.2)
          · skip
            refine s_iload 0 rfl dX12_astray_135 ?_
            refine s_km1 dX12_astray_137 ?_
            refine s_ic_eq (tgt := 152) dX12_astray_138 (by decide) (fun q10 => ?_) (fun q10 => ?_)
            · skip
              refine s_k0 dX12_astray_152 ?_
              refine s_istorew [(9, .inl 0), (8, .inl r6.1), (7, .inl r5.1), (6, .inl (h.1 73 0 (144 + v3).toNatClampNeg)), (5, .inl (h.1 63 0 v3.toNatClampNeg)), (4, .inl 0), (0, .inr (.inr (12, 0))), (1, .inl v1), (2, .inl v2), (3, .inl v3)] rfl rfl dX12_astray_153 ?_
              refine s_iload 5 rfl dX12_astray_155 ?_
              refine s_if_ne_P (tgt := 169) (by decide) dX12_astray_157 (by decide) ?_
              refine s_aload0 6 rfl dX12_astray_160 ?_
              refine s_gr (gR_RX12_23 0) dX12_astray_161 ?_
              refine s_iload3 9 rfl dX12_astray_164 ?_
              refine s_ial aT_49 q2 dX12_astray_165 ?_
              refine s_if_ne (tgt := 176) dX12_astray_166 (by decide) (fun q11 => ?_) (fun q11 => ?_)
              · skip
                refine s_iincw 1 (by decide) 9 [(3, .inl (v3 + 1)), (9, .inl 0), (8, .inl r6.1), (7, .inl r5.1), (6, .inl (h.1 73 0 (144 + v3).toNatClampNeg)), (5, .inl (h.1 63 0 v3.toNatClampNeg)), (4, .inl 0), (0, .inr (.inr (12, 0))), (1, .inl v1), (2, .inl v2)] rfl rfl rfl dX12_astray_176 ?_
                refine s_goto (tgt := 2) dX12_astray_179 (by decide) ?_
                exact s_loc [7, 8, 9, 0] rfl (ih v1 v2 (v3 + 1) r6.2)
              · skip
                refine s_iload 0 rfl dX12_astray_169 ?_
                refine s_if_ne_P (tgt := 176) (by decide) dX12_astray_171 (by decide) ?_
                refine s_iload3 9 rfl dX12_astray_174 ?_
                exact s_ireturn rfl rfl dX12_astray_175
            · skip
              refine s_iload 3 rfl dX12_astray_141 ?_
              refine s_iload 0 rfl dX12_astray_143 ?_
              refine s_ic_ne (tgt := 152) dX12_astray_145 (by decide) (fun q12 => ?_) (fun q12 => ?_)
              · skip
                refine s_k0 dX12_astray_152 ?_
                refine s_istorew [(9, .inl 0), (8, .inl r6.1), (7, .inl r5.1), (6, .inl (h.1 73 0 (144 + v3).toNatClampNeg)), (5, .inl (h.1 63 0 v3.toNatClampNeg)), (4, .inl 0), (0, .inr (.inr (12, 0))), (1, .inl v1), (2, .inl v2), (3, .inl v3)] rfl rfl dX12_astray_153 ?_
                refine s_iload 5 rfl dX12_astray_155 ?_
                refine s_if_ne_P (tgt := 169) (by decide) dX12_astray_157 (by decide) ?_
                refine s_aload0 6 rfl dX12_astray_160 ?_
                refine s_gr (gR_RX12_23 0) dX12_astray_161 ?_
                refine s_iload3 9 rfl dX12_astray_164 ?_
                refine s_ial aT_49 q2 dX12_astray_165 ?_
                refine s_if_ne (tgt := 176) dX12_astray_166 (by decide) (fun q13 => ?_) (fun q13 => ?_)
                · skip
                  refine s_iincw 1 (by decide) 9 [(3, .inl (v3 + 1)), (9, .inl 0), (8, .inl r6.1), (7, .inl r5.1), (6, .inl (h.1 73 0 (144 + v3).toNatClampNeg)), (5, .inl (h.1 63 0 v3.toNatClampNeg)), (4, .inl 0), (0, .inr (.inr (12, 0))), (1, .inl v1), (2, .inl v2)] rfl rfl rfl dX12_astray_176 ?_
                  refine s_goto (tgt := 2) dX12_astray_179 (by decide) ?_
                  exact s_loc [7, 8, 9, 0] rfl (ih v1 v2 (v3 + 1) r6.2)
                · skip
                  refine s_iload 0 rfl dX12_astray_169 ?_
                  refine s_if_ne_P (tgt := 176) (by decide) dX12_astray_171 (by decide) ?_
                  refine s_iload3 9 rfl dX12_astray_174 ?_
                  exact s_ireturn rfl rfl dX12_astray_175
              · skip
                refine s_k1 dX12_astray_148 ?_
                refine s_goto (tgt := 153) dX12_astray_149 (by decide) ?_
                refine s_istorew [(9, .inl 1), (8, .inl r6.1), (7, .inl r5.1), (6, .inl (h.1 73 0 (144 + v3).toNatClampNeg)), (5, .inl (h.1 63 0 v3.toNatClampNeg)), (4, .inl 0), (0, .inr (.inr (12, 0))), (1, .inl v1), (2, .inl v2), (3, .inl v3)] rfl rfl dX12_astray_153 ?_
                refine s_iload 5 rfl dX12_astray_155 ?_
                refine s_if_ne_P (tgt := 169) (by decide) dX12_astray_157 (by decide) ?_
                refine s_aload0 6 rfl dX12_astray_160 ?_
                refine s_gr (gR_RX12_23 0) dX12_astray_161 ?_
                refine s_iload3 9 rfl dX12_astray_164 ?_
                refine s_ial aT_49 q2 dX12_astray_165 ?_
                refine s_if_ne (tgt := 176) dX12_astray_166 (by decide) (fun q14 => ?_) (fun q14 => ?_)
                · skip
                  refine s_iincw 1 (by decide) 9 [(3, .inl (v3 + 1)), (9, .inl 1), (8, .inl r6.1), (7, .inl r5.1), (6, .inl (h.1 73 0 (144 + v3).toNatClampNeg)), (5, .inl (h.1 63 0 v3.toNatClampNeg)), (4, .inl 0), (0, .inr (.inr (12, 0))), (1, .inl v1), (2, .inl v2)] rfl rfl rfl dX12_astray_176 ?_
                  refine s_goto (tgt := 2) dX12_astray_179 (by decide) ?_
                  exact s_loc [7, 8, 9, 0] rfl (ih v1 v2 (v3 + 1) r6.2)
                · skip
                  refine s_iload 0 rfl dX12_astray_169 ?_
                  refine s_if_ne_N (tgt := 176) (by decide) dX12_astray_171 (by decide) ?_
                  refine s_iincw 1 (by decide) 9 [(3, .inl (v3 + 1)), (9, .inl 1), (8, .inl r6.1), (7, .inl r5.1), (6, .inl (h.1 73 0 (144 + v3).toNatClampNeg)), (5, .inl (h.1 63 0 v3.toNatClampNeg)), (4, .inl 0), (0, .inr (.inr (12, 0))), (1, .inl v1), (2, .inl v2)] rfl rfl rfl dX12_astray_176 ?_
                  refine s_goto (tgt := 2) dX12_astray_179 (by decide) ?_
                  exact s_loc [7, 8, 9, 0] rfl (ih v1 v2 (v3 + 1) r6.2)
        · skip
          refine s_iload 0 rfl dX12_astray_101 ?_
          refine s_km1 dX12_astray_103 ?_
          refine s_ic_ne (tgt := 122) dX12_astray_104 (by decide) (fun q15 => ?_) (fun q15 => ?_)
          · skip
            refine s_iload 1 rfl dX12_astray_122 ?_
            refine s_km1 dX12_astray_124 ?_
            refine s_ic_eq_P (tgt := 135) q7 dX12_astray_125 (by decide) ?_
            refine s_iload 0 rfl dX12_astray_135 ?_
            refine s_km1 dX12_astray_137 ?_
            refine s_ic_eq_N (tgt := 152) q15 dX12_astray_138 (by decide) ?_
            refine s_iload 3 rfl dX12_astray_141 ?_
            refine s_iload 0 rfl dX12_astray_143 ?_
            refine s_ic_ne (tgt := 152) dX12_astray_145 (by decide) (fun q16 => ?_) (fun q16 => ?_)
            · skip
              refine s_k0 dX12_astray_152 ?_
              refine s_istorew [(9, .inl 0), (8, .inl r6.1), (7, .inl r5.1), (6, .inl (h.1 73 0 (144 + v3).toNatClampNeg)), (5, .inl (h.1 63 0 v3.toNatClampNeg)), (4, .inl 0), (0, .inr (.inr (12, 0))), (1, .inl v1), (2, .inl v2), (3, .inl v3)] rfl rfl dX12_astray_153 ?_
              refine s_iload 5 rfl dX12_astray_155 ?_
              refine s_if_ne_P (tgt := 169) (by decide) dX12_astray_157 (by decide) ?_
              refine s_aload0 6 rfl dX12_astray_160 ?_
              refine s_gr (gR_RX12_23 0) dX12_astray_161 ?_
              refine s_iload3 9 rfl dX12_astray_164 ?_
              refine s_ial aT_49 q2 dX12_astray_165 ?_
              refine s_if_ne (tgt := 176) dX12_astray_166 (by decide) (fun q17 => ?_) (fun q17 => ?_)
              · skip
                refine s_iincw 1 (by decide) 9 [(3, .inl (v3 + 1)), (9, .inl 0), (8, .inl r6.1), (7, .inl r5.1), (6, .inl (h.1 73 0 (144 + v3).toNatClampNeg)), (5, .inl (h.1 63 0 v3.toNatClampNeg)), (4, .inl 0), (0, .inr (.inr (12, 0))), (1, .inl v1), (2, .inl v2)] rfl rfl rfl dX12_astray_176 ?_
                refine s_goto (tgt := 2) dX12_astray_179 (by decide) ?_
                exact s_loc [7, 8, 9, 0] rfl (ih v1 v2 (v3 + 1) r6.2)
              · skip
                refine s_iload 0 rfl dX12_astray_169 ?_
                refine s_if_ne_P (tgt := 176) (by decide) dX12_astray_171 (by decide) ?_
                refine s_iload3 9 rfl dX12_astray_174 ?_
                exact s_ireturn rfl rfl dX12_astray_175
            · skip
              refine s_k1 dX12_astray_148 ?_
              refine s_goto (tgt := 153) dX12_astray_149 (by decide) ?_
              refine s_istorew [(9, .inl 1), (8, .inl r6.1), (7, .inl r5.1), (6, .inl (h.1 73 0 (144 + v3).toNatClampNeg)), (5, .inl (h.1 63 0 v3.toNatClampNeg)), (4, .inl 0), (0, .inr (.inr (12, 0))), (1, .inl v1), (2, .inl v2), (3, .inl v3)] rfl rfl dX12_astray_153 ?_
              refine s_iload 5 rfl dX12_astray_155 ?_
              refine s_if_ne_P (tgt := 169) (by decide) dX12_astray_157 (by decide) ?_
              refine s_aload0 6 rfl dX12_astray_160 ?_
              refine s_gr (gR_RX12_23 0) dX12_astray_161 ?_
              refine s_iload3 9 rfl dX12_astray_164 ?_
              refine s_ial aT_49 q2 dX12_astray_165 ?_
              refine s_if_ne (tgt := 176) dX12_astray_166 (by decide) (fun q18 => ?_) (fun q18 => ?_)
              · skip
                refine s_iincw 1 (by decide) 9 [(3, .inl (v3 + 1)), (9, .inl 1), (8, .inl r6.1), (7, .inl r5.1), (6, .inl (h.1 73 0 (144 + v3).toNatClampNeg)), (5, .inl (h.1 63 0 v3.toNatClampNeg)), (4, .inl 0), (0, .inr (.inr (12, 0))), (1, .inl v1), (2, .inl v2)] rfl rfl rfl dX12_astray_176 ?_
                refine s_goto (tgt := 2) dX12_astray_179 (by decide) ?_
                exact s_loc [7, 8, 9, 0] rfl (ih v1 v2 (v3 + 1) r6.2)
              · skip
                refine s_iload 0 rfl dX12_astray_169 ?_
                refine s_if_ne_N (tgt := 176) (by decide) dX12_astray_171 (by decide) ?_
                refine s_iincw 1 (by decide) 9 [(3, .inl (v3 + 1)), (9, .inl 1), (8, .inl r6.1), (7, .inl r5.1), (6, .inl (h.1 73 0 (144 + v3).toNatClampNeg)), (5, .inl (h.1 63 0 v3.toNatClampNeg)), (4, .inl 0), (0, .inr (.inr (12, 0))), (1, .inl v1), (2, .inl v2)] rfl rfl rfl dX12_astray_176 ?_
                refine s_goto (tgt := 2) dX12_astray_179 (by decide) ?_
                exact s_loc [7, 8, 9, 0] rfl (ih v1 v2 (v3 + 1) r6.2)
          · skip
            refine s_iload 3 rfl dX12_astray_107 ?_
            refine s_iload 2 rfl dX12_astray_109 ?_
            refine s_ic_ne (tgt := 118) dX12_astray_111 (by decide) (fun q19 => ?_) (fun q19 => ?_)
            · skip
              refine s_k0 dX12_astray_118 ?_
              refine s_goto (tgt := 153) dX12_astray_119 (by decide) ?_
              refine s_istorew [(9, .inl 0), (8, .inl r6.1), (7, .inl r5.1), (6, .inl (h.1 73 0 (144 + v3).toNatClampNeg)), (5, .inl (h.1 63 0 v3.toNatClampNeg)), (4, .inl 0), (0, .inr (.inr (12, 0))), (1, .inl v1), (2, .inl v2), (3, .inl v3)] rfl rfl dX12_astray_153 ?_
              refine s_iload 5 rfl dX12_astray_155 ?_
              refine s_if_ne_P (tgt := 169) (by decide) dX12_astray_157 (by decide) ?_
              refine s_aload0 6 rfl dX12_astray_160 ?_
              refine s_gr (gR_RX12_23 0) dX12_astray_161 ?_
              refine s_iload3 9 rfl dX12_astray_164 ?_
              refine s_ial aT_49 q2 dX12_astray_165 ?_
              refine s_if_ne (tgt := 176) dX12_astray_166 (by decide) (fun q20 => ?_) (fun q20 => ?_)
              · skip
                refine s_iincw 1 (by decide) 9 [(3, .inl (v3 + 1)), (9, .inl 0), (8, .inl r6.1), (7, .inl r5.1), (6, .inl (h.1 73 0 (144 + v3).toNatClampNeg)), (5, .inl (h.1 63 0 v3.toNatClampNeg)), (4, .inl 0), (0, .inr (.inr (12, 0))), (1, .inl v1), (2, .inl v2)] rfl rfl rfl dX12_astray_176 ?_
                refine s_goto (tgt := 2) dX12_astray_179 (by decide) ?_
                exact s_loc [7, 8, 9, 0] rfl (ih v1 v2 (v3 + 1) r6.2)
              · skip
                refine s_iload 0 rfl dX12_astray_169 ?_
                refine s_if_ne_P (tgt := 176) (by decide) dX12_astray_171 (by decide) ?_
                refine s_iload3 9 rfl dX12_astray_174 ?_
                exact s_ireturn rfl rfl dX12_astray_175
            · skip
              refine s_k1 dX12_astray_114 ?_
              refine s_goto (tgt := 153) dX12_astray_115 (by decide) ?_
              refine s_istorew [(9, .inl 1), (8, .inl r6.1), (7, .inl r5.1), (6, .inl (h.1 73 0 (144 + v3).toNatClampNeg)), (5, .inl (h.1 63 0 v3.toNatClampNeg)), (4, .inl 0), (0, .inr (.inr (12, 0))), (1, .inl v1), (2, .inl v2), (3, .inl v3)] rfl rfl dX12_astray_153 ?_
              refine s_iload 5 rfl dX12_astray_155 ?_
              refine s_if_ne_P (tgt := 169) (by decide) dX12_astray_157 (by decide) ?_
              refine s_aload0 6 rfl dX12_astray_160 ?_
              refine s_gr (gR_RX12_23 0) dX12_astray_161 ?_
              refine s_iload3 9 rfl dX12_astray_164 ?_
              refine s_ial aT_49 q2 dX12_astray_165 ?_
              refine s_if_ne (tgt := 176) dX12_astray_166 (by decide) (fun q21 => ?_) (fun q21 => ?_)
              · skip
                refine s_iincw 1 (by decide) 9 [(3, .inl (v3 + 1)), (9, .inl 1), (8, .inl r6.1), (7, .inl r5.1), (6, .inl (h.1 73 0 (144 + v3).toNatClampNeg)), (5, .inl (h.1 63 0 v3.toNatClampNeg)), (4, .inl 0), (0, .inr (.inr (12, 0))), (1, .inl v1), (2, .inl v2)] rfl rfl rfl dX12_astray_176 ?_
                refine s_goto (tgt := 2) dX12_astray_179 (by decide) ?_
                exact s_loc [7, 8, 9, 0] rfl (ih v1 v2 (v3 + 1) r6.2)
              · skip
                refine s_iload 0 rfl dX12_astray_169 ?_
                refine s_if_ne_N (tgt := 176) (by decide) dX12_astray_171 (by decide) ?_
                refine s_iincw 1 (by decide) 9 [(3, .inl (v3 + 1)), (9, .inl 1), (8, .inl r6.1), (7, .inl r5.1), (6, .inl (h.1 73 0 (144 + v3).toNatClampNeg)), (5, .inl (h.1 63 0 v3.toNatClampNeg)), (4, .inl 0), (0, .inr (.inr (12, 0))), (1, .inl v1), (2, .inl v2)] rfl rfl rfl dX12_astray_176 ?_
                refine s_goto (tgt := 2) dX12_astray_179 (by decide) ?_
                exact s_loc [7, 8, 9, 0] rfl (ih v1 v2 (v3 + 1) r6.2)
      · skip
        refine s_k1 dX12_astray_20 ?_
        refine s_goto (tgt := 25) dX12_astray_21 (by decide) ?_
        refine s_istorew [(4, .inl 1), (0, .inr (.inr (12, 0))), (1, .inl v1), (2, .inl v2), (3, .inl v3)] rfl rfl dX12_astray_25 ?_
        refine s_iload 0 rfl dX12_astray_27 ?_
        refine s_if_eq_N (tgt := 41) (by decide) dX12_astray_29 (by decide) ?_
        refine s_aload0 1 rfl dX12_astray_32 ?_
        refine s_gr (gR_RX12_71 0) dX12_astray_33 ?_
        refine s_iload3 4 rfl dX12_astray_36 ?_
        refine s_ial aT_64 q2 dX12_astray_37 ?_
        refine s_goto (tgt := 47) dX12_astray_38 (by decide) ?_
        refine s_istorew [(5, .inl (h.1 64 0 v3.toNatClampNeg)), (4, .inl 1), (0, .inr (.inr (12, 0))), (1, .inl v1), (2, .inl v2), (3, .inl v3)] rfl rfl dX12_astray_47 ?_
        refine s_iload 1 rfl dX12_astray_49 ?_
        refine s_if_eq_N (tgt := 67) (by decide) dX12_astray_51 (by decide) ?_
        refine s_aload0 2 rfl dX12_astray_54 ?_
        refine s_gr (gR_RX12_101 0) dX12_astray_55 ?_
        refine s_sip 144 ks_144 dX12_astray_58 ?_
        refine s_iload3 5 rfl dX12_astray_61 ?_
        refine s_iadd dX12_astray_62 ?_
        refine s_chk (fun q22 => ?_)
        refine s_ial aT_74 q22 dX12_astray_63 ?_
        refine s_goto (tgt := 77) dX12_astray_64 (by decide) ?_
        refine s_istorew [(6, .inl (h.1 74 0 (144 + v3).toNatClampNeg)), (5, .inl (h.1 64 0 v3.toNatClampNeg)), (4, .inl 1), (0, .inr (.inr (12, 0))), (1, .inl v1), (2, .inl v2), (3, .inl v3)] rfl rfl dX12_astray_77 ?_
        refine s_aload0 3 rfl dX12_astray_79 ?_
        refine s_iload1 4 rfl dX12_astray_80 ?_
        refine s_iload3 6 rfl dX12_astray_81 ?_
        refine s_viI [.inl v1, .inl v3] (fun l b hb hl => cf_X12_setTo G l v1 v3 h b hb hl) me_X12_setTo vi_RX12_327 rfl rfl rfl rfl rfl dX12_astray_82 (fun r23 => ?_)
        refine s_istorew [(7, .inl r23.1), (6, .inl (h.1 74 0 (144 + v3).toNatClampNeg)), (5, .inl (h.1 64 0 v3.toNatClampNeg)), (4, .inl 1), (0, .inr (.inr (12, 0))), (1, .inl v1), (2, .inl v2), (3, .inl v3)] rfl rfl dX12_astray_85 ?_
        refine s_aload0 4 rfl dX12_astray_87 ?_
        refine s_iload2 6 rfl dX12_astray_88 ?_
        refine s_iload3 7 rfl dX12_astray_89 ?_
        refine s_viI [.inl v2, .inl v3] (fun l b hb hl => cf_X12_setTo G l v2 v3 r23.2 b hb hl) me_X12_setTo vi_RX12_327 rfl rfl rfl rfl rfl dX12_astray_90 (fun r24 => ?_)
        refine s_istorew [(8, .inl r24.1), (7, .inl r23.1), (6, .inl (h.1 74 0 (144 + v3).toNatClampNeg)), (5, .inl (h.1 64 0 v3.toNatClampNeg)), (4, .inl 1), (0, .inr (.inr (12, 0))), (1, .inl v1), (2, .inl v2), (3, .inl v3)] rfl rfl dX12_astray_93 ?_
        refine s_iload 1 rfl dX12_astray_95 ?_
        refine s_km1 dX12_astray_97 ?_
        refine s_ic_ne (tgt := 122) dX12_astray_98 (by decide) (fun q25 => ?_) (fun q25 => ?_)
        · skip
          refine s_iload 1 rfl dX12_astray_122 ?_
          refine s_km1 dX12_astray_124 ?_
          refine s_ic_eq_N (tgt := 135) q25 dX12_astray_125 (by decide) ?_
          refine s_iload 3 rfl dX12_astray_128 ?_
          refine s_iload 1 rfl dX12_astray_130 ?_
          refine s_ic_eq (tgt := 148) dX12_astray_132 (by decide) (fun q26 => ?_) (fun q26 => ?_)
          · skip
            refine s_k1 dX12_astray_148 ?_
            refine s_goto (tgt := 153) dX12_astray_149 (by decide) ?_
            refine s_istorew [(9, .inl 1), (8, .inl r24.1), (7, .inl r23.1), (6, .inl (h.1 74 0 (144 + v3).toNatClampNeg)), (5, .inl (h.1 64 0 v3.toNatClampNeg)), (4, .inl 1), (0, .inr (.inr (12, 0))), (1, .inl v1), (2, .inl v2), (3, .inl v3)] rfl rfl dX12_astray_153 ?_
            refine s_iload 5 rfl dX12_astray_155 ?_
            refine s_if_ne_N (tgt := 169) (by decide) dX12_astray_157 (by decide) ?_
            refine s_iload 0 rfl dX12_astray_169 ?_
            refine s_if_ne_N (tgt := 176) (by decide) dX12_astray_171 (by decide) ?_
            refine s_iincw 1 (by decide) 9 [(3, .inl (v3 + 1)), (9, .inl 1), (8, .inl r24.1), (7, .inl r23.1), (6, .inl (h.1 74 0 (144 + v3).toNatClampNeg)), (5, .inl (h.1 64 0 v3.toNatClampNeg)), (4, .inl 1), (0, .inr (.inr (12, 0))), (1, .inl v1), (2, .inl v2)] rfl rfl rfl dX12_astray_176 ?_
            refine s_goto (tgt := 2) dX12_astray_179 (by decide) ?_
            exact s_loc [7, 8, 9, 0] rfl (ih v1 v2 (v3 + 1) r24.2)
          · skip
            refine s_iload 0 rfl dX12_astray_135 ?_
            refine s_km1 dX12_astray_137 ?_
            refine s_ic_eq (tgt := 152) dX12_astray_138 (by decide) (fun q27 => ?_) (fun q27 => ?_)
            · skip
              refine s_k0 dX12_astray_152 ?_
              refine s_istorew [(9, .inl 0), (8, .inl r24.1), (7, .inl r23.1), (6, .inl (h.1 74 0 (144 + v3).toNatClampNeg)), (5, .inl (h.1 64 0 v3.toNatClampNeg)), (4, .inl 1), (0, .inr (.inr (12, 0))), (1, .inl v1), (2, .inl v2), (3, .inl v3)] rfl rfl dX12_astray_153 ?_
              refine s_iload 5 rfl dX12_astray_155 ?_
              refine s_if_ne_N (tgt := 169) (by decide) dX12_astray_157 (by decide) ?_
              refine s_iload 0 rfl dX12_astray_169 ?_
              refine s_if_ne_P (tgt := 176) (by decide) dX12_astray_171 (by decide) ?_
              refine s_iload3 9 rfl dX12_astray_174 ?_
              exact s_ireturn rfl rfl dX12_astray_175
            · skip
              refine s_iload 3 rfl dX12_astray_141 ?_
              refine s_iload 0 rfl dX12_astray_143 ?_
              refine s_ic_ne (tgt := 152) dX12_astray_145 (by decide) (fun q28 => ?_) (fun q28 => ?_)
              · skip
                refine s_k0 dX12_astray_152 ?_
                refine s_istorew [(9, .inl 0), (8, .inl r24.1), (7, .inl r23.1), (6, .inl (h.1 74 0 (144 + v3).toNatClampNeg)), (5, .inl (h.1 64 0 v3.toNatClampNeg)), (4, .inl 1), (0, .inr (.inr (12, 0))), (1, .inl v1), (2, .inl v2), (3, .inl v3)] rfl rfl dX12_astray_153 ?_
                refine s_iload 5 rfl dX12_astray_155 ?_
                refine s_if_ne_N (tgt := 169) (by decide) dX12_astray_157 (by decide) ?_
                refine s_iload 0 rfl dX12_astray_169 ?_
                refine s_if_ne_P (tgt := 176) (by decide) dX12_astray_171 (by decide) ?_
                refine s_iload3 9 rfl dX12_astray_174 ?_
                exact s_ireturn rfl rfl dX12_astray_175
              · skip
                refine s_k1 dX12_astray_148 ?_
                refine s_goto (tgt := 153) dX12_astray_149 (by decide) ?_
                refine s_istorew [(9, .inl 1), (8, .inl r24.1), (7, .inl r23.1), (6, .inl (h.1 74 0 (144 + v3).toNatClampNeg)), (5, .inl (h.1 64 0 v3.toNatClampNeg)), (4, .inl 1), (0, .inr (.inr (12, 0))), (1, .inl v1), (2, .inl v2), (3, .inl v3)] rfl rfl dX12_astray_153 ?_
                refine s_iload 5 rfl dX12_astray_155 ?_
                refine s_if_ne_N (tgt := 169) (by decide) dX12_astray_157 (by decide) ?_
                refine s_iload 0 rfl dX12_astray_169 ?_
                refine s_if_ne_N (tgt := 176) (by decide) dX12_astray_171 (by decide) ?_
                refine s_iincw 1 (by decide) 9 [(3, .inl (v3 + 1)), (9, .inl 1), (8, .inl r24.1), (7, .inl r23.1), (6, .inl (h.1 74 0 (144 + v3).toNatClampNeg)), (5, .inl (h.1 64 0 v3.toNatClampNeg)), (4, .inl 1), (0, .inr (.inr (12, 0))), (1, .inl v1), (2, .inl v2)] rfl rfl rfl dX12_astray_176 ?_
                refine s_goto (tgt := 2) dX12_astray_179 (by decide) ?_
                exact s_loc [7, 8, 9, 0] rfl (ih v1 v2 (v3 + 1) r24.2)
        · skip
          refine s_iload 0 rfl dX12_astray_101 ?_
          refine s_km1 dX12_astray_103 ?_
          refine s_ic_ne (tgt := 122) dX12_astray_104 (by decide) (fun q29 => ?_) (fun q29 => ?_)
          · skip
            refine s_iload 1 rfl dX12_astray_122 ?_
            refine s_km1 dX12_astray_124 ?_
            refine s_ic_eq_P (tgt := 135) q25 dX12_astray_125 (by decide) ?_
            refine s_iload 0 rfl dX12_astray_135 ?_
            refine s_km1 dX12_astray_137 ?_
            refine s_ic_eq_N (tgt := 152) q29 dX12_astray_138 (by decide) ?_
            refine s_iload 3 rfl dX12_astray_141 ?_
            refine s_iload 0 rfl dX12_astray_143 ?_
            refine s_ic_ne (tgt := 152) dX12_astray_145 (by decide) (fun q30 => ?_) (fun q30 => ?_)
            · skip
              refine s_k0 dX12_astray_152 ?_
              refine s_istorew [(9, .inl 0), (8, .inl r24.1), (7, .inl r23.1), (6, .inl (h.1 74 0 (144 + v3).toNatClampNeg)), (5, .inl (h.1 64 0 v3.toNatClampNeg)), (4, .inl 1), (0, .inr (.inr (12, 0))), (1, .inl v1), (2, .inl v2), (3, .inl v3)] rfl rfl dX12_astray_153 ?_
              refine s_iload 5 rfl dX12_astray_155 ?_
              refine s_if_ne_N (tgt := 169) (by decide) dX12_astray_157 (by decide) ?_
              refine s_iload 0 rfl dX12_astray_169 ?_
              refine s_if_ne_P (tgt := 176) (by decide) dX12_astray_171 (by decide) ?_
              refine s_iload3 9 rfl dX12_astray_174 ?_
              exact s_ireturn rfl rfl dX12_astray_175
            · skip
              refine s_k1 dX12_astray_148 ?_
              refine s_goto (tgt := 153) dX12_astray_149 (by decide) ?_
              refine s_istorew [(9, .inl 1), (8, .inl r24.1), (7, .inl r23.1), (6, .inl (h.1 74 0 (144 + v3).toNatClampNeg)), (5, .inl (h.1 64 0 v3.toNatClampNeg)), (4, .inl 1), (0, .inr (.inr (12, 0))), (1, .inl v1), (2, .inl v2), (3, .inl v3)] rfl rfl dX12_astray_153 ?_
              refine s_iload 5 rfl dX12_astray_155 ?_
              refine s_if_ne_N (tgt := 169) (by decide) dX12_astray_157 (by decide) ?_
              refine s_iload 0 rfl dX12_astray_169 ?_
              refine s_if_ne_N (tgt := 176) (by decide) dX12_astray_171 (by decide) ?_
              refine s_iincw 1 (by decide) 9 [(3, .inl (v3 + 1)), (9, .inl 1), (8, .inl r24.1), (7, .inl r23.1), (6, .inl (h.1 74 0 (144 + v3).toNatClampNeg)), (5, .inl (h.1 64 0 v3.toNatClampNeg)), (4, .inl 1), (0, .inr (.inr (12, 0))), (1, .inl v1), (2, .inl v2)] rfl rfl rfl dX12_astray_176 ?_
              refine s_goto (tgt := 2) dX12_astray_179 (by decide) ?_
              exact s_loc [7, 8, 9, 0] rfl (ih v1 v2 (v3 + 1) r24.2)
          · skip
            refine s_iload 3 rfl dX12_astray_107 ?_
            refine s_iload 2 rfl dX12_astray_109 ?_
            refine s_ic_ne (tgt := 118) dX12_astray_111 (by decide) (fun q31 => ?_) (fun q31 => ?_)
            · skip
              refine s_k0 dX12_astray_118 ?_
              refine s_goto (tgt := 153) dX12_astray_119 (by decide) ?_
              refine s_istorew [(9, .inl 0), (8, .inl r24.1), (7, .inl r23.1), (6, .inl (h.1 74 0 (144 + v3).toNatClampNeg)), (5, .inl (h.1 64 0 v3.toNatClampNeg)), (4, .inl 1), (0, .inr (.inr (12, 0))), (1, .inl v1), (2, .inl v2), (3, .inl v3)] rfl rfl dX12_astray_153 ?_
              refine s_iload 5 rfl dX12_astray_155 ?_
              refine s_if_ne_N (tgt := 169) (by decide) dX12_astray_157 (by decide) ?_
              refine s_iload 0 rfl dX12_astray_169 ?_
              refine s_if_ne_P (tgt := 176) (by decide) dX12_astray_171 (by decide) ?_
              refine s_iload3 9 rfl dX12_astray_174 ?_
              exact s_ireturn rfl rfl dX12_astray_175
            · skip
              refine s_k1 dX12_astray_114 ?_
              refine s_goto (tgt := 153) dX12_astray_115 (by decide) ?_
              refine s_istorew [(9, .inl 1), (8, .inl r24.1), (7, .inl r23.1), (6, .inl (h.1 74 0 (144 + v3).toNatClampNeg)), (5, .inl (h.1 64 0 v3.toNatClampNeg)), (4, .inl 1), (0, .inr (.inr (12, 0))), (1, .inl v1), (2, .inl v2), (3, .inl v3)] rfl rfl dX12_astray_153 ?_
              refine s_iload 5 rfl dX12_astray_155 ?_
              refine s_if_ne_N (tgt := 169) (by decide) dX12_astray_157 (by decide) ?_
              refine s_iload 0 rfl dX12_astray_169 ?_
              refine s_if_ne_N (tgt := 176) (by decide) dX12_astray_171 (by decide) ?_
              refine s_iincw 1 (by decide) 9 [(3, .inl (v3 + 1)), (9, .inl 1), (8, .inl r24.1), (7, .inl r23.1), (6, .inl (h.1 74 0 (144 + v3).toNatClampNeg)), (5, .inl (h.1 64 0 v3.toNatClampNeg)), (4, .inl 1), (0, .inr (.inr (12, 0))), (1, .inl v1), (2, .inl v2)] rfl rfl rfl dX12_astray_176 ?_
              refine s_goto (tgt := 2) dX12_astray_179 (by decide) ?_
              exact s_loc [7, 8, 9, 0] rfl (ih v1 v2 (v3 + 1) r24.2)
set_option maxRecDepth 20000 in
theorem sf_X12_astray (G : mG) (X : mX) (x1 : Int32) (x2 : Int32)  (h : mH) : Sim G X cX12_astray 10 RX12 (some .int) (mRoom 1 24) eI (f_X12_astray x1 x2 h) 0 [(0, .inr (.inr (12, 0))), (1, .inl x1), (2, .inl x2)] [] h := by
  unfold f_X12_astray
  refine s_k0 dX12_astray_0 ?_
  refine s_istore3 [(3, .inl 0), (0, .inr (.inr (12, 0))), (1, .inl x1), (2, .inl x2)] rfl rfl dX12_astray_1 ?_
  refine s_loc [1, 2, 3, 0] rfl ?_
  refine sf_X12_astray_2 G X  _ (fun u32 u33 u34 h35 => ?_) mFu x1 x2 0 h
  · skip
    refine s_km1 dX12_astray_182 ?_
    exact s_ireturn rfl rfl dX12_astray_183
set_option maxRecDepth 20000 in
theorem cf_X12_astray (G : mG) (l : Launch) (x1 : Int32) (x2 : Int32)  (h : mH) (b : Int32 × mH) (hb : f_X12_astray x1 x2 h = some b) (hl : ∀ v ∈ ([.inr (.inr (12, 0)), .inl x1, .inl x2] : List mV), mLi v) : mMet G l yX12_astray cX12_astray 10 (some .int) (mRoom 1 24) [.inr (.inr (12, 0)), .inl x1, .inl x2] h (eI b) :=
  mMet.of (y := yX12_astray) (as := [.inr (.inr (12, 0)), .inl x1, .inl x2]) (by decide +kernel) (Nat.le_of_ble_eq_true rfl) (fun X => sf_X12_astray G X x1 x2  h) hl b hb
-- DriverBookModel.fails(IIZI)I
def f_X12_fails (x1 : Int32) (x2 : Int32) (x3 : Int32) (x4 : Int32) (h : mH) : Option (Int32 × mH) :=
  if x3 = 0 then
    if (h.1 12 0 34) ≤ (h.1 83 0 (6 : Int32).toNatClampNeg) then
      if mIn x2 24 = true then
      (f_X12_astray x1 (h.1 53 0 x2.toNatClampNeg) h).bind fun r4 =>
      if r4.1 = (-1) then
        if (r4.2.1 12 0 37) = x4 then
          some (0, r4.2)
        else
          some (4, r4.2)
      else
        some (3, r4.2)
      else none
    else
      some (2, h)
  else
    some (1, h)
set_option maxRecDepth 20000 in
theorem sf_X12_fails (G : mG) (X : mX) (x1 : Int32) (x2 : Int32) (x3 : Int32) (x4 : Int32)  (h : mH) : Sim G X cX12_fails 5 RX12 (some .int) (mRoom 2 53) eI (f_X12_fails x1 x2 x3 x4 h) 0 [(0, .inr (.inr (12, 0))), (1, .inl x1), (2, .inl x2), (3, .inl x3), (4, .inl x4)] [] h := by
  unfold f_X12_fails
  refine s_iload3 3 rfl dX12_fails_0 ?_
  refine s_if_eq (tgt := 6) dX12_fails_1 (by decide) (fun q1 => ?_) (fun q1 => ?_)
  · skip
    refine s_aload0 0 rfl dX12_fails_6 ?_
    refine s_gi gI_RX12_204 dX12_fails_7 ?_
    refine s_aload0 0 rfl dX12_fails_10 ?_
    refine s_gr (gR_RX12_128 0) dX12_fails_11 ?_
    refine s_bip 6 kb_6 dX12_fails_14 ?_
    refine s_ial aT_83 (by decide) dX12_fails_16 ?_
    refine s_ic_le (tgt := 22) dX12_fails_17 (by decide) (fun q2 => ?_) (fun q2 => ?_)
    · skip
      refine s_aload0 0 rfl dX12_fails_22 ?_
      refine s_iload1 1 rfl dX12_fails_23 ?_
      refine s_aload0 0 rfl dX12_fails_24 ?_
      refine s_gr (gR_RX12_35 0) dX12_fails_25 ?_
      refine s_iload2 2 rfl dX12_fails_28 ?_
      refine s_chk (fun q3 => ?_)
      refine s_ial aT_53 q3 dX12_fails_29 ?_
      refine s_viI [.inl x1, .inl (h.1 53 0 x2.toNatClampNeg)] (fun l b hb hl => cf_X12_astray G l x1 (h.1 53 0 x2.toNatClampNeg) h b hb hl) me_X12_astray vi_RX12_330 rfl rfl rfl rfl rfl dX12_fails_30 (fun r4 => ?_)
      refine s_km1 dX12_fails_33 ?_
      refine s_ic_eq (tgt := 39) dX12_fails_34 (by decide) (fun q5 => ?_) (fun q5 => ?_)
      · skip
        refine s_aload0 0 rfl dX12_fails_39 ?_
        refine s_gi gI_RX12_213 dX12_fails_40 ?_
        refine s_iload 4 rfl dX12_fails_43 ?_
        refine s_ic_eq (tgt := 52) dX12_fails_45 (by decide) (fun q6 => ?_) (fun q6 => ?_)
        · skip
          refine s_k0 dX12_fails_52 ?_
          exact s_ireturn rfl rfl dX12_fails_53
        · skip
          refine s_k4 dX12_fails_48 ?_
          refine s_goto (tgt := 53) dX12_fails_49 (by decide) ?_
          exact s_ireturn rfl rfl dX12_fails_53
      · skip
        refine s_k3 dX12_fails_37 ?_
        exact s_ireturn rfl rfl dX12_fails_38
    · skip
      refine s_k2 dX12_fails_20 ?_
      exact s_ireturn rfl rfl dX12_fails_21
  · skip
    refine s_k1 dX12_fails_4 ?_
    exact s_ireturn rfl rfl dX12_fails_5
set_option maxRecDepth 20000 in
theorem cf_X12_fails (G : mG) (l : Launch) (x1 : Int32) (x2 : Int32) (x3 : Int32) (x4 : Int32)  (h : mH) (b : Int32 × mH) (hb : f_X12_fails x1 x2 x3 x4 h = some b) (hl : ∀ v ∈ ([.inr (.inr (12, 0)), .inl x1, .inl x2, .inl x3, .inl x4] : List mV), mLi v) : mMet G l yX12_fails cX12_fails 5 (some .int) (mRoom 2 53) [.inr (.inr (12, 0)), .inl x1, .inl x2, .inl x3, .inl x4] h (eI b) :=
  mMet.of (y := yX12_fails) (as := [.inr (.inr (12, 0)), .inl x1, .inl x2, .inl x3, .inl x4]) (by decide +kernel) (Nat.le_of_ble_eq_true rfl) (fun X => sf_X12_fails G X x1 x2 x3 x4  h) hl b hb
-- DriverBookModel.walk(II)I
def f_X12_walk_107 (k : Int32 → Int32 → Int32 → Int32 → Int32 → Int32 → mH → Option (Int32 × mH))  : Nat → Int32 → Int32 → Int32 → Int32 → Int32 → Int32 → mH → Option (Int32 × mH)
  | 0, _, _, _, _, _, _, _ => none
  | n + 1, v1, v2, v4, v5, v6, v7, h =>
    if v7 ≤ v4 then
      if v6 = 0 then
        (f_X12_comes v2 1 ((h.1 12 0 23) + v7) h).bind fun r15 =>
        (f_X12_runs_2 0 v1 r15).bind fun r16 =>
        (f_X12_fails v1 v2 r16.1 v5 r16.2).bind fun r17 =>
        if r17.1 = 0 then
          (f_X12_brings 6 r17.2).bind fun r19 =>
          f_X12_walk_107 k  n v1 v2 v4 v5 v6 (v7 + 1) r19
        else
          if r17.1 = 3 then
            mLet (uI r17.2 12 0 57 r17.1) fun h23 =>
            if mIn v2 24 = true then
            (f_X12_astray v1 (h23.1 53 0 v2.toNatClampNeg) h23).bind fun r25 =>
            (f_X12_brings 6 (uI r25.2 12 0 58 r25.1)).bind fun r26 =>
            f_X12_walk_107 k  n v1 v2 v4 v5 v7 (v7 + 1) r26
            else none
          else
            mLet (uI r17.2 12 0 57 r17.1) fun h21 =>
            (f_X12_brings 6 (uI h21 12 0 58 (-2))).bind fun r22 =>
            f_X12_walk_107 k  n v1 v2 v4 v5 v7 (v7 + 1) r22
      else
        k v1 v2 v4 v5 v6 v7 h
    else
      k v1 v2 v4 v5 v6 v7 h
def f_X12_walk (x1 : Int32) (x2 : Int32) (h : mH) : Option (Int32 × mH) :=
  (f_X12_isAct x1 h).bind fun r1 =>
  if r1.1 = 0 then
    some ((-1), r1.2)
  else
    (f_X12_isField x2 r1.2).bind fun r3 =>
    if r3.1 = 0 then
      some ((-1), r3.2)
    else
      if mIn x2 24 = true then
      if (r3.2.1 49 0 x2.toNatClampNeg) = 2 then
        if (r3.2.1 53 0 x2.toNatClampNeg) = (-1) then
          some ((-4), r3.2)
        else
          (f_X12_stores 6 r3.2).bind fun r8 =>
          (f_X12_runs_2 0 x1 r8).bind fun r9 =>
          (f_X12_brings 6 r9.2).bind fun r10 =>
          if r9.1 = 0 then
            if (r10.1 12 0 30) = 16 then
              some ((-3), r10)
            else
              f_X12_walk_107 (fun u27 u28 u29 u30 u31 u32 h33 =>
                some (u31, h33))  mFu x1 x2 ((r9.2.1 12 0 23) - (r9.2.1 72 0 (6 : Int32).toNatClampNeg)) ((r9.2.1 12 0 37) + 1) 0 1 r10
          else
            some ((-5), r10)
      else
        some ((-4), r3.2)
      else none
set_option maxRecDepth 20000 in
theorem sf_X12_walk_107 (G : mG) (X : mX)   (k : Int32 → Int32 → Int32 → Int32 → Int32 → Int32 → mH → Option (Int32 × mH)) (hk : ∀ (v1 : Int32) (v2 : Int32) (v4 : Int32) (v5 : Int32) (v6 : Int32) (v7 : Int32) (h : mH), Sim G X cX12_walk 10 RX12 (some .int) (mRoom 10 238) eI (k v1 v2 v4 v5 v6 v7 h) 205 [(0, .inr (.inr (12, 0))), (1, .inl v1), (2, .inl v2), (4, .inl v4), (5, .inl v5), (6, .inl v6), (7, .inl v7)] [] h) (n : Nat) : ∀ (v1 : Int32) (v2 : Int32) (v4 : Int32) (v5 : Int32) (v6 : Int32) (v7 : Int32) (h : mH), Sim G X cX12_walk 10 RX12 (some .int) (mRoom 10 238) eI (f_X12_walk_107 k  n v1 v2 v4 v5 v6 v7 h) 107 [(0, .inr (.inr (12, 0))), (1, .inl v1), (2, .inl v2), (4, .inl v4), (5, .inl v5), (6, .inl v6), (7, .inl v7)] [] h := by
  induction n with
  | zero =>
    intro v1 v2 v4 v5 v6 v7 h
    exact s_none
  | succ n ih =>
    intro v1 v2 v4 v5 v6 v7 h
    unfold f_X12_walk_107
    refine s_iload 6 rfl dX12_walk_107 ?_
    refine s_iload 3 rfl dX12_walk_109 ?_
    refine s_ic_gt (tgt := 205) dX12_walk_111 (by decide) (fun q13 => ?_) (fun q13 => ?_)
    · skip
      exact s_loc [0, 1, 2, 3, 4, 5, 6] rfl (hk v1 v2 v4 v5 v6 v7 h)
    · skip
      refine s_iload 5 rfl dX12_walk_114 ?_
      refine s_if_ne (tgt := 205) dX12_walk_116 (by decide) (fun q14 => ?_) (fun q14 => ?_)
      · skip
        exact s_loc [0, 1, 2, 3, 4, 5, 6] rfl (hk v1 v2 v4 v5 v6 v7 h)
      · skip
        refine s_aload0 0 rfl dX12_walk_119 ?_
        refine s_iload2 2 rfl dX12_walk_120 ?_
        refine s_k1 dX12_walk_121 ?_
        refine s_aload0 0 rfl dX12_walk_122 ?_
        refine s_gi gI_RX12_198 dX12_walk_123 ?_
        refine s_iload 6 rfl dX12_walk_126 ?_
        refine s_iadd dX12_walk_128 ?_
        refine s_viV [.inl v2, .inl 1, .inl ((h.1 12 0 23) + v7)] (fun l b hb hl => cf_X12_comes G l v2 1 ((h.1 12 0 23) + v7) h b hb hl) me_X12_comes vi_RX12_289 rfl rfl rfl rfl rfl dX12_walk_129 (fun r15 => ?_)
        refine s_aload0 0 rfl dX12_walk_132 ?_
        refine s_k0 dX12_walk_133 ?_
        refine s_iload1 1 rfl dX12_walk_134 ?_
        refine s_viI [.inl 0, .inl v1] (fun l b hb hl => cf_X12_runs_2 G l 0 v1 r15 b hb hl) me_X12_runs vi_RX12_300 rfl rfl rfl rfl rfl dX12_walk_135 (fun r16 => ?_)
        refine s_istorew [(8, .inl r16.1), (0, .inr (.inr (12, 0))), (1, .inl v1), (2, .inl v2), (4, .inl v4), (5, .inl v5), (6, .inl v6), (7, .inl v7)] rfl rfl dX12_walk_138 ?_
        refine s_aload0 1 rfl dX12_walk_140 ?_
        refine s_iload1 2 rfl dX12_walk_141 ?_
        refine s_iload2 3 rfl dX12_walk_142 ?_
        refine s_iload 0 rfl dX12_walk_143 ?_
        refine s_iload 5 rfl dX12_walk_145 ?_
        refine s_viI [.inl v1, .inl v2, .inl r16.1, .inl v5] (fun l b hb hl => cf_X12_fails G l v1 v2 r16.1 v5 r16.2 b hb hl) me_X12_fails vi_RX12_339 rfl rfl rfl rfl rfl dX12_walk_147 (fun r17 => ?_)
        refine s_istorew [(9, .inl r17.1), (8, .inl r16.1), (0, .inr (.inr (12, 0))), (1, .inl v1), (2, .inl v2), (4, .inl v4), (5, .inl v5), (6, .inl v6), (7, .inl v7)] rfl rfl dX12_walk_150 ?_
        refine s_iload 0 rfl dX12_walk_152 ?_
        refine s_if_eq (tgt := 193) dX12_walk_154 (by decide) (fun q18 => ?_) (fun q18 => ?_)
        · skip
          refine s_aload0 2 rfl dX12_walk_193 ?_
          refine s_bip 6 kb_6 dX12_walk_194 ?_
          refine s_viV [.inl 6] (fun l b hb hl => cf_X12_brings G l 6 r17.2 b hb hl) me_X12_brings vi_RX12_336 rfl rfl rfl rfl rfl dX12_walk_196 (fun r19 => ?_)
          refine s_iincw 1 (by decide) 8 [(7, .inl (v7 + 1)), (9, .inl r17.1), (8, .inl r16.1), (0, .inr (.inr (12, 0))), (1, .inl v1), (2, .inl v2), (4, .inl v4), (5, .inl v5), (6, .inl v6)] rfl rfl rfl dX12_walk_199 ?_
          refine s_goto (tgt := 107) dX12_walk_202 (by decide) ?_
          exact s_loc [3, 4, 5, 6, 7, 8, 0] rfl (ih v1 v2 v4 v5 v6 (v7 + 1) r19)
        · skip
          refine s_iload 8 rfl dX12_walk_157 ?_
          refine s_istorew [(6, .inl v7), (9, .inl r17.1), (8, .inl r16.1), (0, .inr (.inr (12, 0))), (1, .inl v1), (2, .inl v2), (4, .inl v4), (5, .inl v5), (7, .inl v7)] rfl rfl dX12_walk_159 ?_
          refine s_aload0 3 rfl dX12_walk_161 ?_
          refine s_iload 1 rfl dX12_walk_162 ?_
          refine s_pi pI_RX12_146 dX12_walk_164 ?_
          refine s_aload0 3 rfl dX12_walk_167 ?_
          refine s_iload 1 rfl dX12_walk_168 ?_
          refine s_k3 dX12_walk_170 ?_
          refine s_ic_ne (tgt := 188) dX12_walk_171 (by decide) (fun q20 => ?_) (fun q20 => ?_)
          · skip
            refine s_bip (-2) kb_m2 dX12_walk_188 ?_
            refine s_let (fun h21 => ?_)
            refine s_pi pI_RX12_149 dX12_walk_190 ?_
            refine s_aload0 3 rfl dX12_walk_193 ?_
            refine s_bip 6 kb_6 dX12_walk_194 ?_
            refine s_viV [.inl 6] (fun l b hb hl => cf_X12_brings G l 6 (uI h21 12 0 58 (-2)) b hb hl) me_X12_brings vi_RX12_336 rfl rfl rfl rfl rfl dX12_walk_196 (fun r22 => ?_)
            refine s_iincw 1 (by decide) 8 [(7, .inl (v7 + 1)), (6, .inl v7), (9, .inl r17.1), (8, .inl r16.1), (0, .inr (.inr (12, 0))), (1, .inl v1), (2, .inl v2), (4, .inl v4), (5, .inl v5)] rfl rfl rfl dX12_walk_199 ?_
            refine s_goto (tgt := 107) dX12_walk_202 (by decide) ?_
            exact s_loc [4, 5, 6, 7, 8, 1, 0] rfl (ih v1 v2 v4 v5 v7 (v7 + 1) r22)
          · skip
            refine s_aload0 3 rfl dX12_walk_174 ?_
            refine s_iload1 4 rfl dX12_walk_175 ?_
            refine s_aload0 3 rfl dX12_walk_176 ?_
            refine s_gr (gR_RX12_35 0) dX12_walk_177 ?_
            refine s_iload2 5 rfl dX12_walk_180 ?_
            refine s_let (fun h23 => ?_)
            refine s_chk (fun q24 => ?_)
            refine s_ial aT_53 q24 dX12_walk_181 ?_
            refine s_viI [.inl v1, .inl (h23.1 53 0 v2.toNatClampNeg)] (fun l b hb hl => cf_X12_astray G l v1 (h23.1 53 0 v2.toNatClampNeg) h23 b hb hl) me_X12_astray vi_RX12_330 rfl rfl rfl rfl rfl dX12_walk_182 (fun r25 => ?_)
            refine s_goto (tgt := 190) dX12_walk_185 (by decide) ?_
            refine s_pi pI_RX12_149 dX12_walk_190 ?_
            refine s_aload0 3 rfl dX12_walk_193 ?_
            refine s_bip 6 kb_6 dX12_walk_194 ?_
            refine s_viV [.inl 6] (fun l b hb hl => cf_X12_brings G l 6 (uI r25.2 12 0 58 r25.1) b hb hl) me_X12_brings vi_RX12_336 rfl rfl rfl rfl rfl dX12_walk_196 (fun r26 => ?_)
            refine s_iincw 1 (by decide) 8 [(7, .inl (v7 + 1)), (6, .inl v7), (9, .inl r17.1), (8, .inl r16.1), (0, .inr (.inr (12, 0))), (1, .inl v1), (2, .inl v2), (4, .inl v4), (5, .inl v5)] rfl rfl rfl dX12_walk_199 ?_
            refine s_goto (tgt := 107) dX12_walk_202 (by decide) ?_
            exact s_loc [4, 5, 6, 7, 8, 1, 0] rfl (ih v1 v2 v4 v5 v7 (v7 + 1) r26)
set_option maxRecDepth 20000 in
theorem sf_X12_walk (G : mG) (X : mX) (x1 : Int32) (x2 : Int32)  (h : mH) : Sim G X cX12_walk 10 RX12 (some .int) (mRoom 10 238) eI (f_X12_walk x1 x2 h) 0 [(0, .inr (.inr (12, 0))), (1, .inl x1), (2, .inl x2)] [] h := by
  unfold f_X12_walk
  refine s_aload0 0 rfl dX12_walk_0 ?_
  refine s_iload1 1 rfl dX12_walk_1 ?_
  refine s_viI [.inl x1] (fun l b hb hl => cf_X12_isAct G l x1 h b hb hl) me_X12_isAct vi_RX12_241 rfl rfl rfl rfl rfl dX12_walk_2 (fun r1 => ?_)
  refine s_if_eq (tgt := 16) dX12_walk_5 (by decide) (fun q2 => ?_) (fun q2 => ?_)
  · skip
    refine s_km1 dX12_walk_16 ?_
    exact s_ireturn rfl rfl dX12_walk_17
  · skip
    refine s_aload0 0 rfl dX12_walk_8 ?_
    refine s_iload2 2 rfl dX12_walk_9 ?_
    refine s_viI [.inl x2] (fun l b hb hl => cf_X12_isField G l x2 r1.2 b hb hl) me_X12_isField vi_RX12_238 rfl rfl rfl rfl rfl dX12_walk_10 (fun r3 => ?_)
    refine s_if_ne (tgt := 18) dX12_walk_13 (by decide) (fun q4 => ?_) (fun q4 => ?_)
    · skip
      refine s_aload0 0 rfl dX12_walk_18 ?_
      refine s_gr (gR_RX12_23 0) dX12_walk_19 ?_
      refine s_iload2 2 rfl dX12_walk_22 ?_
      refine s_chk (fun q5 => ?_)
      refine s_ial aT_49 q5 dX12_walk_23 ?_
      refine s_k2 dX12_walk_24 ?_
      refine s_ic_ne (tgt := 38) dX12_walk_25 (by decide) (fun q6 => ?_) (fun q6 => ?_)
      · skip
        refine s_bip (-4) kb_m4 dX12_walk_38 ?_
        exact s_ireturn rfl rfl dX12_walk_40
      · skip
        refine s_aload0 0 rfl dX12_walk_28 ?_
        refine s_gr (gR_RX12_35 0) dX12_walk_29 ?_
        refine s_iload2 2 rfl dX12_walk_32 ?_
        refine s_ial aT_53 q5 dX12_walk_33 ?_
        refine s_km1 dX12_walk_34 ?_
        refine s_ic_ne (tgt := 41) dX12_walk_35 (by decide) (fun q7 => ?_) (fun q7 => ?_)
        · skip
          refine s_aload0 0 rfl dX12_walk_41 ?_
          refine s_bip 6 kb_6 dX12_walk_42 ?_
          refine s_viV [.inl 6] (fun l b hb hl => cf_X12_stores G l 6 r3.2 b hb hl) me_X12_stores vi_RX12_333 rfl rfl rfl rfl rfl dX12_walk_44 (fun r8 => ?_)
          refine s_aload0 0 rfl dX12_walk_47 ?_
          refine s_k0 dX12_walk_48 ?_
          refine s_iload1 1 rfl dX12_walk_49 ?_
          refine s_viI [.inl 0, .inl x1] (fun l b hb hl => cf_X12_runs_2 G l 0 x1 r8 b hb hl) me_X12_runs vi_RX12_300 rfl rfl rfl rfl rfl dX12_walk_50 (fun r9 => ?_)
          refine s_istore3 [(3, .inl r9.1), (0, .inr (.inr (12, 0))), (1, .inl x1), (2, .inl x2)] rfl rfl dX12_walk_53 ?_
          refine s_aload0 1 rfl dX12_walk_54 ?_
          refine s_gi gI_RX12_198 dX12_walk_55 ?_
          refine s_aload0 1 rfl dX12_walk_58 ?_
          refine s_gr (gR_RX12_95 0) dX12_walk_59 ?_
          refine s_bip 6 kb_6 dX12_walk_62 ?_
          refine s_ial aT_72 (by decide) dX12_walk_64 ?_
          refine s_isub dX12_walk_65 ?_
          refine s_istorew [(4, .inl ((r9.2.1 12 0 23) - (r9.2.1 72 0 (6 : Int32).toNatClampNeg))), (3, .inl r9.1), (0, .inr (.inr (12, 0))), (1, .inl x1), (2, .inl x2)] rfl rfl dX12_walk_66 ?_
          refine s_aload0 2 rfl dX12_walk_68 ?_
          refine s_gi gI_RX12_213 dX12_walk_69 ?_
          refine s_k1 dX12_walk_72 ?_
          refine s_iadd dX12_walk_73 ?_
          refine s_istorew [(5, .inl ((r9.2.1 12 0 37) + 1)), (4, .inl ((r9.2.1 12 0 23) - (r9.2.1 72 0 (6 : Int32).toNatClampNeg))), (3, .inl r9.1), (0, .inr (.inr (12, 0))), (1, .inl x1), (2, .inl x2)] rfl rfl dX12_walk_74 ?_
          refine s_aload0 3 rfl dX12_walk_76 ?_
          refine s_bip 6 kb_6 dX12_walk_77 ?_
          refine s_viV [.inl 6] (fun l b hb hl => cf_X12_brings G l 6 r9.2 b hb hl) me_X12_brings vi_RX12_336 rfl rfl rfl rfl rfl dX12_walk_79 (fun r10 => ?_)
          refine s_iload3 2 rfl dX12_walk_82 ?_
          refine s_if_eq (tgt := 89) dX12_walk_83 (by decide) (fun q11 => ?_) (fun q11 => ?_)
          · skip
            refine s_aload0 3 rfl dX12_walk_89 ?_
            refine s_gi gI_RX12_201 dX12_walk_90 ?_
            refine s_bip 16 kb_16 dX12_walk_93 ?_
            refine s_ic_ne (tgt := 101) dX12_walk_95 (by decide) (fun q12 => ?_) (fun q12 => ?_)
            · skip
              refine s_k0 dX12_walk_101 ?_
              refine s_istorew [(6, .inl 0), (5, .inl ((r9.2.1 12 0 37) + 1)), (4, .inl ((r9.2.1 12 0 23) - (r9.2.1 72 0 (6 : Int32).toNatClampNeg))), (3, .inl r9.1), (0, .inr (.inr (12, 0))), (1, .inl x1), (2, .inl x2)] rfl rfl dX12_walk_102 ?_
              refine s_k1 dX12_walk_104 ?_
              refine s_istorew [(7, .inl 1), (6, .inl 0), (5, .inl ((r9.2.1 12 0 37) + 1)), (4, .inl ((r9.2.1 12 0 23) - (r9.2.1 72 0 (6 : Int32).toNatClampNeg))), (3, .inl r9.1), (0, .inr (.inr (12, 0))), (1, .inl x1), (2, .inl x2)] rfl rfl dX12_walk_105 ?_
              refine s_loc [5, 6, 7, 3, 2, 1, 0] rfl ?_
              refine sf_X12_walk_107 G X  _ (fun u27 u28 u29 u30 u31 u32 h33 => ?_) mFu x1 x2 ((r9.2.1 12 0 23) - (r9.2.1 72 0 (6 : Int32).toNatClampNeg)) ((r9.2.1 12 0 37) + 1) 0 1 r10
              · skip
                refine s_iload 5 rfl dX12_walk_205 ?_
                exact s_ireturn rfl rfl dX12_walk_207
            · skip
              refine s_bip (-3) kb_m3 dX12_walk_98 ?_
              exact s_ireturn rfl rfl dX12_walk_100
          · skip
            refine s_bip (-5) kb_m5 dX12_walk_86 ?_
            exact s_ireturn rfl rfl dX12_walk_88
        · skip
          refine s_bip (-4) kb_m4 dX12_walk_38 ?_
          exact s_ireturn rfl rfl dX12_walk_40
    · skip
      refine s_km1 dX12_walk_16 ?_
      exact s_ireturn rfl rfl dX12_walk_17
set_option maxRecDepth 20000 in
theorem cf_X12_walk (G : mG) (l : Launch) (x1 : Int32) (x2 : Int32)  (h : mH) (b : Int32 × mH) (hb : f_X12_walk x1 x2 h = some b) (hl : ∀ v ∈ ([.inr (.inr (12, 0)), .inl x1, .inl x2] : List mV), mLi v) : mMet G l yX12_walk cX12_walk 10 (some .int) (mRoom 10 238) [.inr (.inr (12, 0)), .inl x1, .inl x2] h (eI b) :=
  mMet.of (y := yX12_walk) (as := [.inr (.inr (12, 0)), .inl x1, .inl x2]) (by decide +kernel) (Nat.le_of_ble_eq_true rfl) (fun X => sf_X12_walk G X x1 x2  h) hl b hb
-- DriverBookModel.why(I)I
def f_X12_why (x1 : Int32) (h : mH) : Option (Int32 × mH) :=
  if (h.1 12 0 57) = (-1) then
    some ((-1), h)
  else
    if x1 = 0 then
      some (h.1 12 0 57, h)
    else
      if x1 = 1 then
        some (h.1 12 0 58, h)
      else
        some ((-1), h)
set_option maxRecDepth 20000 in
theorem sf_X12_why (G : mG) (X : mX) (x1 : Int32)  (h : mH) : Sim G X cX12_why 2 RX12 (some .int) (mRoom 0 0) eI (f_X12_why x1 h) 0 [(0, .inr (.inr (12, 0))), (1, .inl x1)] [] h := by
  unfold f_X12_why
  refine s_aload0 0 rfl dX12_why_0 ?_
  refine s_gi gI_RX12_146 dX12_why_1 ?_
  refine s_km1 dX12_why_4 ?_
  refine s_ic_ne (tgt := 12) dX12_why_5 (by decide) (fun q1 => ?_) (fun q1 => ?_)
  · skip
    refine s_iload1 1 rfl dX12_why_12 ?_
    refine s_if_ne (tgt := 23) dX12_why_13 (by decide) (fun q2 => ?_) (fun q2 => ?_)
    · skip
      refine s_iload1 1 rfl dX12_why_23 ?_
      refine s_k1 dX12_why_24 ?_
      refine s_ic_ne (tgt := 35) dX12_why_25 (by decide) (fun q3 => ?_) (fun q3 => ?_)
      · skip
        refine s_km1 dX12_why_35 ?_
        exact s_ireturn rfl rfl dX12_why_36
      · skip
        refine s_aload0 0 rfl dX12_why_28 ?_
        refine s_gi gI_RX12_149 dX12_why_29 ?_
        refine s_goto (tgt := 36) dX12_why_32 (by decide) ?_
        exact s_ireturn rfl rfl dX12_why_36
    · skip
      refine s_aload0 0 rfl dX12_why_16 ?_
      refine s_gi gI_RX12_146 dX12_why_17 ?_
      refine s_goto (tgt := 36) dX12_why_20 (by decide) ?_
      exact s_ireturn rfl rfl dX12_why_36
  · skip
    refine s_km1 dX12_why_8 ?_
    refine s_goto (tgt := 36) dX12_why_9 (by decide) ?_
    exact s_ireturn rfl rfl dX12_why_36
set_option maxRecDepth 20000 in
theorem cf_X12_why (G : mG) (l : Launch) (x1 : Int32)  (h : mH) (b : Int32 × mH) (hb : f_X12_why x1 h = some b) (hl : ∀ v ∈ ([.inr (.inr (12, 0)), .inl x1] : List mV), mLi v) : mMet G l yX12_why cX12_why 2 (some .int) (mRoom 0 0) [.inr (.inr (12, 0)), .inl x1] h (eI b) :=
  mMet.of (y := yX12_why) (as := [.inr (.inr (12, 0)), .inl x1]) (by decide +kernel) (Nat.le_of_ble_eq_true rfl) (fun X => sf_X12_why G X x1  h) hl b hb
-- DriverBookModel.isTape(I)Z
def f_X12_isTape (x0 : Int32) (h : mH) : Option (Int32 × mH) :=
  (f_X12_in x0 0 5 h).bind fun r1 =>
  if (r1.1 = 0 ∨ r1.1 = 1) then
  some (r1.1, r1.2)
  else none
set_option maxRecDepth 20000 in
theorem sf_X12_isTape (G : mG) (X : mX) (x0 : Int32)  (h : mH) : Sim G X cX12_isTape 1 RX12 (some .boolean) (mRoom 1 22) eI (f_X12_isTape x0 h) 0 [(0, .inl x0)] [] h := by
  unfold f_X12_isTape
  refine s_iload0 0 rfl dX12_isTape_0 ?_
  refine s_k0 dX12_isTape_1 ?_
  refine s_k5 dX12_isTape_2 ?_
  refine s_siI [.inl x0, .inl 0, .inl 5] (fun l b hb hl => cf_X12_in G l x0 0 5 h b hb hl) me_X12_in si_RX12_184 rfl rfl rfl rfl rfl dX12_isTape_3 (fun r1 => ?_)
  refine s_chk (fun q2 => ?_)
  exact s_zreturn rfl rfl q2 dX12_isTape_6
set_option maxRecDepth 20000 in
theorem cf_X12_isTape (G : mG) (l : Launch) (x0 : Int32)  (h : mH) (b : Int32 × mH) (hb : f_X12_isTape x0 h = some b) (hl : ∀ v ∈ ([.inl x0] : List mV), mLi v) : mMet G l yX12_isTape cX12_isTape 1 (some .boolean) (mRoom 1 22) [.inl x0] h (eI b) :=
  mMet.of (y := yX12_isTape) (as := [.inl x0]) (by decide +kernel) (Nat.le_of_ble_eq_true rfl) (fun X => sf_X12_isTape G X x0  h) hl b hb
-- DriverBookModel.tape(III)I
def f_X12_tape_52 (k : Int32 → Int32 → Int32 → mH → Option (Int32 × mH))  : Nat → Int32 → Int32 → Int32 → mH → Option (Int32 × mH)
  | 0, _, _, _, _ => none
  | n + 1, v1, v3, v4, h =>
    if v4 < 64 then
      if mIn ((64 * v1) + v4) 384 = true then
      f_X12_tape_52 k  n v1 v3 (v4 + 1) (uJ h 91 0 ((64 * v1) + v4).toNatClampNeg 0)
      else none
    else
      k v1 v3 v4 h
def f_X12_tape (x1 : Int32) (x2 : Int32) (x3 : Int32) (h : mH) : Option (Int32 × mH) :=
  (f_X12_isTape x1 h).bind fun r1 =>
  if r1.1 = 0 then
    some ((-1), r1.2)
  else
    (f_X12_in x2 1 4 r1.2).bind fun r3 =>
    if r3.1 = 0 then
      some ((-1), r3.2)
    else
      if x3 ≤ 64 then
        if x3 < 0 then
          (f_X12_refuse (-14) r3.2).bind fun r15 =>
          some (r15.1, r15.2)
        else
          if mIn x1 6 = true then
          mLet (uI r3.2 89 0 x1.toNatClampNeg x2) fun h8 =>
          f_X12_tape_52 (fun u11 u12 u13 h14 =>
            some (u12, h14))  mFu x1 x3 0 (uI h8 90 0 x1.toNatClampNeg x3)
          else none
      else
        some ((-1), r3.2)
set_option maxRecDepth 20000 in
theorem sf_X12_tape_52 (G : mG) (X : mX)   (k : Int32 → Int32 → Int32 → mH → Option (Int32 × mH)) (hk : ∀ (v1 : Int32) (v3 : Int32) (v4 : Int32) (h : mH), Sim G X cX12_tape 5 RX12 (some .int) (mRoom 2 42) eI (k v1 v3 v4 h) 78 [(0, .inr (.inr (12, 0))), (1, .inl v1), (3, .inl v3), (4, .inl v4)] [] h) (n : Nat) : ∀ (v1 : Int32) (v3 : Int32) (v4 : Int32) (h : mH), Sim G X cX12_tape 5 RX12 (some .int) (mRoom 2 42) eI (f_X12_tape_52 k  n v1 v3 v4 h) 52 [(0, .inr (.inr (12, 0))), (1, .inl v1), (3, .inl v3), (4, .inl v4)] [] h := by
  induction n with
  | zero =>
    intro v1 v3 v4 h
    exact s_none
  | succ n ih =>
    intro v1 v3 v4 h
    unfold f_X12_tape_52
    refine s_iload 3 rfl dX12_tape_52 ?_
    refine s_bip 64 kb_64 dX12_tape_54 ?_
    refine s_ic_ge (tgt := 78) dX12_tape_56 (by decide) (fun q9 => ?_) (fun q9 => ?_)
    · skip
      exact s_loc [0, 1, 2, 3] rfl (hk v1 v3 v4 h)
    · skip
      refine s_aload0 0 rfl dX12_tape_59 ?_
      refine s_gr (gR_RX12_158 0) dX12_tape_60 ?_
      refine s_bip 64 kb_64 dX12_tape_63 ?_
      refine s_iload1 1 rfl dX12_tape_65 ?_
      refine s_imul dX12_tape_66 ?_
      refine s_iload 3 rfl dX12_tape_67 ?_
      refine s_iadd dX12_tape_69 ?_
      refine s_lk0 dX12_tape_70 ?_
      refine s_chk (fun q10 => ?_)
      refine s_las aT_91 q10 dX12_tape_71 ?_
      refine s_iincw 1 (by decide) 3 [(4, .inl (v4 + 1)), (0, .inr (.inr (12, 0))), (1, .inl v1), (3, .inl v3)] rfl rfl rfl dX12_tape_72 ?_
      refine s_goto (tgt := 52) dX12_tape_75 (by decide) ?_
      exact s_loc [1, 2, 3, 0] rfl (ih v1 v3 (v4 + 1) (uJ h 91 0 ((64 * v1) + v4).toNatClampNeg 0))
set_option maxRecDepth 20000 in
theorem sf_X12_tape (G : mG) (X : mX) (x1 : Int32) (x2 : Int32) (x3 : Int32)  (h : mH) : Sim G X cX12_tape 5 RX12 (some .int) (mRoom 2 42) eI (f_X12_tape x1 x2 x3 h) 0 [(0, .inr (.inr (12, 0))), (1, .inl x1), (2, .inl x2), (3, .inl x3)] [] h := by
  unfold f_X12_tape
  refine s_iload1 1 rfl dX12_tape_0 ?_
  refine s_siI [.inl x1] (fun l b hb hl => cf_X12_isTape G l x1 h b hb hl) me_X12_isTape si_RX12_343 rfl rfl rfl rfl rfl dX12_tape_1 (fun r1 => ?_)
  refine s_if_eq (tgt := 22) dX12_tape_4 (by decide) (fun q2 => ?_) (fun q2 => ?_)
  · skip
    refine s_km1 dX12_tape_22 ?_
    exact s_ireturn rfl rfl dX12_tape_23
  · skip
    refine s_iload2 2 rfl dX12_tape_7 ?_
    refine s_k1 dX12_tape_8 ?_
    refine s_k4 dX12_tape_9 ?_
    refine s_siI [.inl x2, .inl 1, .inl 4] (fun l b hb hl => cf_X12_in G l x2 1 4 r1.2 b hb hl) me_X12_in si_RX12_184 rfl rfl rfl rfl rfl dX12_tape_10 (fun r3 => ?_)
    refine s_if_eq (tgt := 22) dX12_tape_13 (by decide) (fun q4 => ?_) (fun q4 => ?_)
    · skip
      refine s_km1 dX12_tape_22 ?_
      exact s_ireturn rfl rfl dX12_tape_23
    · skip
      refine s_iload3 3 rfl dX12_tape_16 ?_
      refine s_bip 64 kb_64 dX12_tape_17 ?_
      refine s_ic_le (tgt := 24) dX12_tape_19 (by decide) (fun q5 => ?_) (fun q5 => ?_)
      · skip
        refine s_iload3 3 rfl dX12_tape_24 ?_
        refine s_if_ge (tgt := 35) dX12_tape_25 (by decide) (fun q6 => ?_) (fun q6 => ?_)
        · skip
          refine s_aload0 0 rfl dX12_tape_35 ?_
          refine s_gr (gR_RX12_152 0) dX12_tape_36 ?_
          refine s_iload1 1 rfl dX12_tape_39 ?_
          refine s_iload2 2 rfl dX12_tape_40 ?_
          refine s_chk (fun q7 => ?_)
          refine s_ias aT_89 q7 dX12_tape_41 ?_
          refine s_aload0 0 rfl dX12_tape_42 ?_
          refine s_gr (gR_RX12_155 0) dX12_tape_43 ?_
          refine s_iload1 1 rfl dX12_tape_46 ?_
          refine s_iload3 3 rfl dX12_tape_47 ?_
          refine s_let (fun h8 => ?_)
          refine s_ias aT_90 q7 dX12_tape_48 ?_
          refine s_k0 dX12_tape_49 ?_
          refine s_istorew [(4, .inl 0), (0, .inr (.inr (12, 0))), (1, .inl x1), (2, .inl x2), (3, .inl x3)] rfl rfl dX12_tape_50 ?_
          refine s_loc [1, 2, 4, 0] rfl ?_
          refine sf_X12_tape_52 G X  _ (fun u11 u12 u13 h14 => ?_) mFu x1 x3 0 (uI h8 90 0 x1.toNatClampNeg x3)
          · skip
            refine s_iload3 2 rfl dX12_tape_78 ?_
            exact s_ireturn rfl rfl dX12_tape_79
        · skip
          refine s_aload0 0 rfl dX12_tape_28 ?_
          refine s_bip (-14) kb_m14 dX12_tape_29 ?_
          refine s_viI [.inl (-14)] (fun l b hb hl => cf_X12_refuse G l (-14) r3.2 b hb hl) me_X12_refuse vi_RX12_346 rfl rfl rfl rfl rfl dX12_tape_31 (fun r15 => ?_)
          exact s_ireturn rfl rfl dX12_tape_34
      · skip
        refine s_km1 dX12_tape_22 ?_
        exact s_ireturn rfl rfl dX12_tape_23
set_option maxRecDepth 20000 in
theorem cf_X12_tape (G : mG) (l : Launch) (x1 : Int32) (x2 : Int32) (x3 : Int32)  (h : mH) (b : Int32 × mH) (hb : f_X12_tape x1 x2 x3 h = some b) (hl : ∀ v ∈ ([.inr (.inr (12, 0)), .inl x1, .inl x2, .inl x3] : List mV), mLi v) : mMet G l yX12_tape cX12_tape 5 (some .int) (mRoom 2 42) [.inr (.inr (12, 0)), .inl x1, .inl x2, .inl x3] h (eI b) :=
  mMet.of (y := yX12_tape) (as := [.inr (.inr (12, 0)), .inl x1, .inl x2, .inl x3]) (by decide +kernel) (Nat.le_of_ble_eq_true rfl) (fun X => sf_X12_tape G X x1 x2 x3  h) hl b hb
