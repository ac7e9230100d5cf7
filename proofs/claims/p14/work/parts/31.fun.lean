-- DriverBookModel.polls(II)Z
def f_X12_polls_2_2 (k : Int32 → Int32 → Int32 → mH → Option (Int32 × mH))  : Nat → Int32 → Int32 → Int32 → mH → Option (Int32 × mH)
  | 0, _, _, _, _ => none
  | n + 1, v1, v2, v3, h =>
    if mIn (v2 + 5) 600 = true then
    if v3 ≤ (h.1 94 0 (v2 + 5).toNatClampNeg) then
      if v3 ≤ 0 then
        if mIn (v2 + 1) 600 = true then
        (f_X12_reads (h.1 94 0 (v2 + 1).toNatClampNeg) 1 h).bind fun r5 =>
        if mIn v1 2 = true then
        mLet (uI r5.2 95 0 v1.toNatClampNeg r5.1) fun h7 =>
        if mIn (v2 + 3) 600 = true then
        if mIn (v2 + 4) 600 = true then
        if ((h7.1 95 0 v1.toNatClampNeg) &&& (h7.1 94 0 (v2 + 3).toNatClampNeg)) = (h7.1 94 0 (v2 + 4).toNatClampNeg) then
          some (0, h7)
        else
          f_X12_polls_2_2 k  n v1 v2 (v3 + 1) h7
        else none
        else none
        else none
        else none
      else
        (f_X12_handles_2 v1 h).bind fun r11 =>
        if mIn (v2 + 1) 600 = true then
        (f_X12_reads (r11.1 94 0 (v2 + 1).toNatClampNeg) 1 r11).bind fun r13 =>
        if mIn v1 2 = true then
        mLet (uI r13.2 95 0 v1.toNatClampNeg r13.1) fun h15 =>
        if mIn (v2 + 3) 600 = true then
        if mIn (v2 + 4) 600 = true then
        if ((h15.1 95 0 v1.toNatClampNeg) &&& (h15.1 94 0 (v2 + 3).toNatClampNeg)) = (h15.1 94 0 (v2 + 4).toNatClampNeg) then
          some (0, h15)
        else
          f_X12_polls_2_2 k  n v1 v2 (v3 + 1) h15
        else none
        else none
        else none
        else none
    else
      k v1 v2 v3 h
    else none
def f_X12_polls_2 (x1 : Int32) (x2 : Int32) (h : mH) : Option (Int32 × mH) :=
  f_X12_polls_2_2 (fun u19 u20 u21 h22 =>
    some (1, h22))  mFu x1 x2 0 h
set_option maxRecDepth 20000 in
theorem sf_X12_polls_2_2 (G : mG) (X : mX)   (k : Int32 → Int32 → Int32 → mH → Option (Int32 × mH)) (hk : ∀ (v1 : Int32) (v2 : Int32) (v3 : Int32) (h : mH), Sim G X cX12_polls 4 RX12 (some .boolean) (mRoom 8 190) eI (k v1 v2 v3 h) 76 [(0, .inr (.inr (12, 0))), (1, .inl v1), (2, .inl v2), (3, .inl v3)] [] h) (n : Nat) : ∀ (v1 : Int32) (v2 : Int32) (v3 : Int32) (h : mH), Sim G X cX12_polls 4 RX12 (some .boolean) (mRoom 8 190) eI (f_X12_polls_2_2 k  n v1 v2 v3 h) 2 [(0, .inr (.inr (12, 0))), (1, .inl v1), (2, .inl v2), (3, .inl v3)] [] h := by
  induction n with
  | zero =>
    intro v1 v2 v3 h
    exact s_none
  | succ n ih =>
    intro v1 v2 v3 h
    unfold f_X12_polls_2_2
    refine s_iload3 3 rfl dX12_polls_2 ?_
    refine s_aload0 0 rfl dX12_polls_3 ?_
    refine s_gr (gR_RX12_169 0) dX12_polls_4 ?_
    refine s_iload2 2 rfl dX12_polls_7 ?_
    refine s_k5 dX12_polls_8 ?_
    refine s_iadd dX12_polls_9 ?_
    refine s_chk (fun q1 => ?_)
    refine s_ial aT_94 q1 dX12_polls_10 ?_
    refine s_ic_gt (tgt := 76) dX12_polls_11 (by decide) (fun q2 => ?_) (fun q2 => ?_)
    · skip
      exact s_loc [0, 1, 2, 3] rfl (hk v1 v2 v3 h)
    · skip
      refine s_iload3 3 rfl dX12_polls_14 ?_
      refine s_if_le (tgt := 23) dX12_polls_15 (by decide) (fun q3 => ?_) (fun q3 => ?_)
      · skip
        refine s_aload0 0 rfl dX12_polls_23 ?_
        refine s_gr (gR_RX12_172 0) dX12_polls_24 ?_
        refine s_iload1 1 rfl dX12_polls_27 ?_
        refine s_aload0 0 rfl dX12_polls_28 ?_
        refine s_aload0 0 rfl dX12_polls_29 ?_
        refine s_gr (gR_RX12_169 0) dX12_polls_30 ?_
        refine s_iload2 2 rfl dX12_polls_33 ?_
        refine s_k1 dX12_polls_34 ?_
        refine s_iadd dX12_polls_35 ?_
        refine s_chk (fun q4 => ?_)
        refine s_ial aT_94 q4 dX12_polls_36 ?_
        refine s_k1 dX12_polls_37 ?_
        refine s_viI [.inl (h.1 94 0 (v2 + 1).toNatClampNeg), .inl 1] (fun l b hb hl => cf_X12_reads G l (h.1 94 0 (v2 + 1).toNatClampNeg) 1 h b hb hl) me_X12_reads vi_RX12_307 rfl rfl rfl rfl rfl dX12_polls_38 (fun r5 => ?_)
        refine s_chk (fun q6 => ?_)
        refine s_ias aT_95 q6 dX12_polls_41 ?_
        refine s_aload0 0 rfl dX12_polls_42 ?_
        refine s_gr (gR_RX12_172 0) dX12_polls_43 ?_
        refine s_iload1 1 rfl dX12_polls_46 ?_
        refine s_let (fun h7 => ?_)
        refine s_ial aT_95 q6 dX12_polls_47 ?_
        refine s_aload0 0 rfl dX12_polls_48 ?_
        refine s_gr (gR_RX12_169 0) dX12_polls_49 ?_
        refine s_iload2 2 rfl dX12_polls_52 ?_
        refine s_k3 dX12_polls_53 ?_
        refine s_iadd dX12_polls_54 ?_
        refine s_chk (fun q8 => ?_)
        refine s_ial aT_94 q8 dX12_polls_55 ?_
        refine s_iand dX12_polls_56 ?_
        refine s_aload0 0 rfl dX12_polls_57 ?_
        refine s_gr (gR_RX12_169 0) dX12_polls_58 ?_
        refine s_iload2 2 rfl dX12_polls_61 ?_
        refine s_k4 dX12_polls_62 ?_
        refine s_iadd dX12_polls_63 ?_
        refine s_chk (fun q9 => ?_)
        refine s_ial aT_94 q9 dX12_polls_64 ?_
        refine s_ic_ne (tgt := 70) dX12_polls_65 (by decide) (fun q10 => ?_) (fun q10 => ?_)
        · skip
          refine s_iincw 1 (by decide) 3 [(3, .inl (v3 + 1)), (0, .inr (.inr (12, 0))), (1, .inl v1), (2, .inl v2)] rfl rfl rfl dX12_polls_70 ?_
          refine s_goto (tgt := 2) dX12_polls_73 (by decide) ?_
          exact s_loc [1, 2, 3, 0] rfl (ih v1 v2 (v3 + 1) h7)
        · skip
          refine s_k0 dX12_polls_68 ?_
          exact s_zreturn rfl rfl (Or.inl rfl) dX12_polls_69
      · skip
        refine s_aload0 0 rfl dX12_polls_18 ?_
        refine s_iload1 1 rfl dX12_polls_19 ?_
        refine s_viV [.inl v1] (fun l b hb hl => cf_X12_handles_2 G l v1 h b hb hl) me_X12_handles vi_RX12_303 rfl rfl rfl rfl rfl dX12_polls_20 (fun r11 => ?_)
        refine s_aload0 0 rfl dX12_polls_23 ?_
        refine s_gr (gR_RX12_172 0) dX12_polls_24 ?_
        refine s_iload1 1 rfl dX12_polls_27 ?_
        refine s_aload0 0 rfl dX12_polls_28 ?_
        refine s_aload0 0 rfl dX12_polls_29 ?_
        refine s_gr (gR_RX12_169 0) dX12_polls_30 ?_
        refine s_iload2 2 rfl dX12_polls_33 ?_
        refine s_k1 dX12_polls_34 ?_
        refine s_iadd dX12_polls_35 ?_
        refine s_chk (fun q12 => ?_)
        refine s_ial aT_94 q12 dX12_polls_36 ?_
        refine s_k1 dX12_polls_37 ?_
        refine s_viI [.inl (r11.1 94 0 (v2 + 1).toNatClampNeg), .inl 1] (fun l b hb hl => cf_X12_reads G l (r11.1 94 0 (v2 + 1).toNatClampNeg) 1 r11 b hb hl) me_X12_reads vi_RX12_307 rfl rfl rfl rfl rfl dX12_polls_38 (fun r13 => ?_)
        refine s_chk (fun q14 => ?_)
        refine s_ias aT_95 q14 dX12_polls_41 ?_
        refine s_aload0 0 rfl dX12_polls_42 ?_
        refine s_gr (gR_RX12_172 0) dX12_polls_43 ?_
        refine s_iload1 1 rfl dX12_polls_46 ?_
        refine s_let (fun h15 => ?_)
        refine s_ial aT_95 q14 dX12_polls_47 ?_
        refine s_aload0 0 rfl dX12_polls_48 ?_
        refine s_gr (gR_RX12_169 0) dX12_polls_49 ?_
        refine s_iload2 2 rfl dX12_polls_52 ?_
        refine s_k3 dX12_polls_53 ?_
        refine s_iadd dX12_polls_54 ?_
        refine s_chk (fun q16 => ?_)
        refine s_ial aT_94 q16 dX12_polls_55 ?_
        refine s_iand dX12_polls_56 ?_
        refine s_aload0 0 rfl dX12_polls_57 ?_
        refine s_gr (gR_RX12_169 0) dX12_polls_58 ?_
        refine s_iload2 2 rfl dX12_polls_61 ?_
        refine s_k4 dX12_polls_62 ?_
        refine s_iadd dX12_polls_63 ?_
        refine s_chk (fun q17 => ?_)
        refine s_ial aT_94 q17 dX12_polls_64 ?_
        refine s_ic_ne (tgt := 70) dX12_polls_65 (by decide) (fun q18 => ?_) (fun q18 => ?_)
        · skip
          refine s_iincw 1 (by decide) 3 [(3, .inl (v3 + 1)), (0, .inr (.inr (12, 0))), (1, .inl v1), (2, .inl v2)] rfl rfl rfl dX12_polls_70 ?_
          refine s_goto (tgt := 2) dX12_polls_73 (by decide) ?_
          exact s_loc [1, 2, 3, 0] rfl (ih v1 v2 (v3 + 1) h15)
        · skip
          refine s_k0 dX12_polls_68 ?_
          exact s_zreturn rfl rfl (Or.inl rfl) dX12_polls_69
set_option maxRecDepth 20000 in
theorem sf_X12_polls_2 (G : mG) (X : mX) (x1 : Int32) (x2 : Int32)  (h : mH) : Sim G X cX12_polls 4 RX12 (some .boolean) (mRoom 8 190) eI (f_X12_polls_2 x1 x2 h) 0 [(0, .inr (.inr (12, 0))), (1, .inl x1), (2, .inl x2)] [] h := by
  unfold f_X12_polls_2
  refine s_k0 dX12_polls_0 ?_
  refine s_istore3 [(3, .inl 0), (0, .inr (.inr (12, 0))), (1, .inl x1), (2, .inl x2)] rfl rfl dX12_polls_1 ?_
  refine s_loc [1, 2, 3, 0] rfl ?_
  refine sf_X12_polls_2_2 G X  _ (fun u19 u20 u21 h22 => ?_) mFu x1 x2 0 h
  · skip
    refine s_k1 dX12_polls_76 ?_
    exact s_zreturn rfl rfl (Or.inr rfl) dX12_polls_77
set_option maxRecDepth 20000 in
theorem cf_X12_polls_2 (G : mG) (l : Launch) (x1 : Int32) (x2 : Int32)  (h : mH) (b : Int32 × mH) (hb : f_X12_polls_2 x1 x2 h = some b) (hl : ∀ v ∈ ([.inr (.inr (12, 0)), .inl x1, .inl x2] : List mV), mLi v) : mMet G l yX12_polls cX12_polls 4 (some .boolean) (mRoom 8 190) [.inr (.inr (12, 0)), .inl x1, .inl x2] h (eI b) :=
  mMet.of (y := yX12_polls) (as := [.inr (.inr (12, 0)), .inl x1, .inl x2]) (by decide +kernel) (Nat.le_of_ble_eq_true rfl) (fun X => sf_X12_polls_2 G X x1 x2  h) hl b hb
-- DriverBookModel.pauses(II)V
def f_X12_pauses_2_2 (k : Int32 → Int32 → Int32 → mH → Option (mH))  : Nat → Int32 → Int32 → Int32 → mH → Option (mH)
  | 0, _, _, _, _ => none
  | n + 1, v1, v2, v3, h =>
    if v3 < v2 then
      if v3 ≤ 0 then
        (f_X12_ticks  h).bind fun r3 =>
        f_X12_pauses_2_2 k  n v1 v2 (v3 + 1) r3
      else
        (f_X12_handles_2 v1 h).bind fun r4 =>
        (f_X12_ticks  r4).bind fun r5 =>
        f_X12_pauses_2_2 k  n v1 v2 (v3 + 1) r5
    else
      k v1 v2 v3 h
def f_X12_pauses_2 (x1 : Int32) (x2 : Int32) (h : mH) : Option (mH) :=
  f_X12_pauses_2_2 (fun u6 u7 u8 h9 =>
    some h9)  mFu x1 x2 0 h
set_option maxRecDepth 20000 in
theorem sf_X12_pauses_2_2 (G : mG) (X : mX)   (k : Int32 → Int32 → Int32 → mH → Option (mH)) (hk : ∀ (v1 : Int32) (v2 : Int32) (v3 : Int32) (h : mH), Sim G X cX12_pauses 4 RX12 none (mRoom 8 190) eV (k v1 v2 v3 h) 26 [(0, .inr (.inr (12, 0))), (1, .inl v1), (2, .inl v2), (3, .inl v3)] [] h) (n : Nat) : ∀ (v1 : Int32) (v2 : Int32) (v3 : Int32) (h : mH), Sim G X cX12_pauses 4 RX12 none (mRoom 8 190) eV (f_X12_pauses_2_2 k  n v1 v2 v3 h) 2 [(0, .inr (.inr (12, 0))), (1, .inl v1), (2, .inl v2), (3, .inl v3)] [] h := by
  induction n with
  | zero =>
    intro v1 v2 v3 h
    exact s_none
  | succ n ih =>
    intro v1 v2 v3 h
    unfold f_X12_pauses_2_2
    refine s_iload3 3 rfl dX12_pauses_2 ?_
    refine s_iload2 2 rfl dX12_pauses_3 ?_
    refine s_ic_ge (tgt := 26) dX12_pauses_4 (by decide) (fun q1 => ?_) (fun q1 => ?_)
    · skip
      exact s_loc [0, 1, 2, 3] rfl (hk v1 v2 v3 h)
    · skip
      refine s_iload3 3 rfl dX12_pauses_7 ?_
      refine s_if_le (tgt := 16) dX12_pauses_8 (by decide) (fun q2 => ?_) (fun q2 => ?_)
      · skip
        refine s_aload0 0 rfl dX12_pauses_16 ?_
        refine s_viV [] (fun l b hb hl => cf_X12_ticks G l  h b hb hl) me_X12_ticks vi_RX12_244 rfl rfl rfl rfl rfl dX12_pauses_17 (fun r3 => ?_)
        refine s_iincw 1 (by decide) 3 [(3, .inl (v3 + 1)), (0, .inr (.inr (12, 0))), (1, .inl v1), (2, .inl v2)] rfl rfl rfl dX12_pauses_20 ?_
        refine s_goto (tgt := 2) dX12_pauses_23 (by decide) ?_
        exact s_loc [1, 2, 3, 0] rfl (ih v1 v2 (v3 + 1) r3)
      · skip
        refine s_aload0 0 rfl dX12_pauses_11 ?_
        refine s_iload1 1 rfl dX12_pauses_12 ?_
        refine s_viV [.inl v1] (fun l b hb hl => cf_X12_handles_2 G l v1 h b hb hl) me_X12_handles vi_RX12_303 rfl rfl rfl rfl rfl dX12_pauses_13 (fun r4 => ?_)
        refine s_aload0 0 rfl dX12_pauses_16 ?_
        refine s_viV [] (fun l b hb hl => cf_X12_ticks G l  r4 b hb hl) me_X12_ticks vi_RX12_244 rfl rfl rfl rfl rfl dX12_pauses_17 (fun r5 => ?_)
        refine s_iincw 1 (by decide) 3 [(3, .inl (v3 + 1)), (0, .inr (.inr (12, 0))), (1, .inl v1), (2, .inl v2)] rfl rfl rfl dX12_pauses_20 ?_
        refine s_goto (tgt := 2) dX12_pauses_23 (by decide) ?_
        exact s_loc [1, 2, 3, 0] rfl (ih v1 v2 (v3 + 1) r5)
set_option maxRecDepth 20000 in
theorem sf_X12_pauses_2 (G : mG) (X : mX) (x1 : Int32) (x2 : Int32)  (h : mH) : Sim G X cX12_pauses 4 RX12 none (mRoom 8 190) eV (f_X12_pauses_2 x1 x2 h) 0 [(0, .inr (.inr (12, 0))), (1, .inl x1), (2, .inl x2)] [] h := by
  unfold f_X12_pauses_2
  refine s_k0 dX12_pauses_0 ?_
  refine s_istore3 [(3, .inl 0), (0, .inr (.inr (12, 0))), (1, .inl x1), (2, .inl x2)] rfl rfl dX12_pauses_1 ?_
  refine s_loc [1, 2, 3, 0] rfl ?_
  refine sf_X12_pauses_2_2 G X  _ (fun u6 u7 u8 h9 => ?_) mFu x1 x2 0 h
  · skip
    exact s_return rfl rfl dX12_pauses_26
set_option maxRecDepth 20000 in
theorem cf_X12_pauses_2 (G : mG) (l : Launch) (x1 : Int32) (x2 : Int32)  (h : mH) (b : mH) (hb : f_X12_pauses_2 x1 x2 h = some b) (hl : ∀ v ∈ ([.inr (.inr (12, 0)), .inl x1, .inl x2] : List mV), mLi v) : mMet G l yX12_pauses cX12_pauses 4 none (mRoom 8 190) [.inr (.inr (12, 0)), .inl x1, .inl x2] h (eV b) :=
  mMet.of (y := yX12_pauses) (as := [.inr (.inr (12, 0)), .inl x1, .inl x2]) (by decide +kernel) (Nat.le_of_ble_eq_true rfl) (fun X => sf_X12_pauses_2 G X x1 x2  h) hl b hb
-- DriverBookModel.runs(II)Z
def f_X12_runs_2_23 (k : Int32 → Int32 → Int32 → mH → Option (Int32 × mH))  : Nat → Int32 → Int32 → Int32 → mH → Option (Int32 × mH)
  | 0, _, _, _, _ => none
  | n + 1, v1, v3, v4, h =>
    if mIn v1 2 = true then
    if v4 < (h.1 93 0 v1.toNatClampNeg) then
      if v3 = 0 then
        (f_X12_handles_2 v1 h).bind fun r7 =>
        if mIn (6 * ((50 * v1) + v4)) 600 = true then
        if (r7.1 94 0 (6 * ((50 * v1) + v4)).toNatClampNeg) = 0 then
          if mIn ((6 * ((50 * v1) + v4)) + 1) 600 = true then
          (f_X12_reads (r7.1 94 0 ((6 * ((50 * v1) + v4)) + 1).toNatClampNeg) 1 r7).bind fun r11 =>
          f_X12_runs_2_23 k  n v1 v3 (v4 + 1) (uI r11.2 95 0 v1.toNatClampNeg r11.1)
          else none
        else
        if (r7.1 94 0 (6 * ((50 * v1) + v4)).toNatClampNeg) = 1 then
          (f_X12_puts v1 (6 * ((50 * v1) + v4)) r7).bind fun r13 =>
          f_X12_runs_2_23 k  n v1 v3 (v4 + 1) r13
        else
        if (r7.1 94 0 (6 * ((50 * v1) + v4)).toNatClampNeg) = 2 then
          (f_X12_polls_2 v1 (6 * ((50 * v1) + v4)) r7).bind fun r15 =>
          f_X12_runs_2_23 k  n v1 r15.1 (v4 + 1) r15.2
        else
        if (r7.1 94 0 (6 * ((50 * v1) + v4)).toNatClampNeg) = 3 then
          if mIn ((6 * ((50 * v1) + v4)) + 1) 600 = true then
          (f_X12_pauses_2 v1 (r7.1 94 0 ((6 * ((50 * v1) + v4)) + 1).toNatClampNeg) r7).bind fun r18 =>
          f_X12_runs_2_23 k  n v1 v3 (v4 + 1) r18
          else none
        else
        if (r7.1 94 0 (6 * ((50 * v1) + v4)).toNatClampNeg) = 4 then
          if mIn ((6 * ((50 * v1) + v4)) + 1) 600 = true then
          (f_X12_picks v1 (r7.1 94 0 ((6 * ((50 * v1) + v4)) + 1).toNatClampNeg) r7).bind fun r21 =>
          f_X12_runs_2_23 k  n v1 v3 (v4 + 1) r21
          else none
        else
        if (r7.1 94 0 (6 * ((50 * v1) + v4)).toNatClampNeg) = 5 then
          f_X12_runs_2_23 k  n v1 v3 (v4 + 1) (uI r7 12 0 67 1)
        else
          f_X12_runs_2_23 k  n v1 v3 (v4 + 1) (uI r7 12 0 67 0)
        else none
      else
        k v1 v3 v4 h
    else
      k v1 v3 v4 h
    else none
def f_X12_runs_2 (x1 : Int32) (x2 : Int32) (h : mH) : Option (Int32 × mH) :=
  (f_X12_makes x1 x2 h).bind fun r1 =>
  if mIn x1 2 = true then
  mLet (uI r1 95 0 x1.toNatClampNeg 0) fun h3 =>
  f_X12_runs_2_23 (fun u23 u24 u25 h26 =>
    (f_X12_handles_2 u23 (uI h26 12 0 67 0)).bind fun r27 =>
    if (u24 = 0 ∨ u24 = 1) then
    some (u24, r27)
    else none)  mFu x1 0 0 (uI h3 12 0 67 0)
  else none
set_option maxRecDepth 20000 in
theorem sf_X12_runs_2_23 (G : mG) (X : mX)   (k : Int32 → Int32 → Int32 → mH → Option (Int32 × mH)) (hk : ∀ (v1 : Int32) (v3 : Int32) (v4 : Int32) (h : mH), Sim G X cX12_runs 6 RX12 (some .boolean) (mRoom 9 213) eI (k v1 v3 v4 h) 197 [(0, .inr (.inr (12, 0))), (1, .inl v1), (3, .inl v3), (4, .inl v4)] [] h) (n : Nat) : ∀ (v1 : Int32) (v3 : Int32) (v4 : Int32) (h : mH), Sim G X cX12_runs 6 RX12 (some .boolean) (mRoom 9 213) eI (f_X12_runs_2_23 k  n v1 v3 v4 h) 23 [(0, .inr (.inr (12, 0))), (1, .inl v1), (3, .inl v3), (4, .inl v4)] [] h := by
  induction n with
  | zero =>
    intro v1 v3 v4 h
    exact s_none
  | succ n ih =>
    intro v1 v3 v4 h
    unfold f_X12_runs_2_23
    refine s_iload 3 rfl dX12_runs_23 ?_
    refine s_aload0 0 rfl dX12_runs_25 ?_
    refine s_gr (gR_RX12_166 0) dX12_runs_26 ?_
    refine s_iload1 1 rfl dX12_runs_29 ?_
    refine s_chk (fun q4 => ?_)
    refine s_ial aT_93 q4 dX12_runs_30 ?_
    refine s_ic_ge (tgt := 197) dX12_runs_31 (by decide) (fun q5 => ?_) (fun q5 => ?_)
    · skip
      exact s_loc [0, 1, 2, 3] rfl (hk v1 v3 v4 h)
    · skip
      refine s_iload3 2 rfl dX12_runs_34 ?_
      refine s_if_ne (tgt := 197) dX12_runs_35 (by decide) (fun q6 => ?_) (fun q6 => ?_)
      · skip
        exact s_loc [0, 1, 2, 3] rfl (hk v1 v3 v4 h)
      · skip
        refine s_bip 6 kb_6 dX12_runs_38 ?_
        refine s_bip 50 kb_50 dX12_runs_40 ?_
        refine s_iload1 1 rfl dX12_runs_42 ?_
        refine s_imul dX12_runs_43 ?_
        refine s_iload 3 rfl dX12_runs_44 ?_
        refine s_iadd dX12_runs_46 ?_
        refine s_imul dX12_runs_47 ?_
        refine s_istorew [(5, .inl (6 * ((50 * v1) + v4))), (0, .inr (.inr (12, 0))), (1, .inl v1), (3, .inl v3), (4, .inl v4)] rfl rfl dX12_runs_48 ?_
        refine s_aload0 1 rfl dX12_runs_50 ?_
        refine s_iload1 2 rfl dX12_runs_51 ?_
        refine s_viV [.inl v1] (fun l b hb hl => cf_X12_handles_2 G l v1 h b hb hl) me_X12_handles vi_RX12_303 rfl rfl rfl rfl rfl dX12_runs_52 (fun r7 => ?_)
        refine s_aload0 1 rfl dX12_runs_55 ?_
        refine s_gr (gR_RX12_169 0) dX12_runs_56 ?_
        refine s_iload 0 rfl dX12_runs_59 ?_
        refine s_chk (fun q8 => ?_)
        refine s_ial aT_94 q8 dX12_runs_61 ?_
        refine s_case (fun q9 => ?_) (fun q9 => ?_)
        · skip
          refine s_tabP dX12_runs_62 0 q9 100 (by decide) (by decide) ?_
          refine s_aload0 1 rfl dX12_runs_100 ?_
          refine s_gr (gR_RX12_172 0) dX12_runs_101 ?_
          refine s_iload1 2 rfl dX12_runs_104 ?_
          refine s_aload0 1 rfl dX12_runs_105 ?_
          refine s_aload0 1 rfl dX12_runs_106 ?_
          refine s_gr (gR_RX12_169 0) dX12_runs_107 ?_
          refine s_iload 0 rfl dX12_runs_110 ?_
          refine s_k1 dX12_runs_112 ?_
          refine s_iadd dX12_runs_113 ?_
          refine s_chk (fun q10 => ?_)
          refine s_ial aT_94 q10 dX12_runs_114 ?_
          refine s_k1 dX12_runs_115 ?_
          refine s_viI [.inl (r7.1 94 0 ((6 * ((50 * v1) + v4)) + 1).toNatClampNeg), .inl 1] (fun l b hb hl => cf_X12_reads G l (r7.1 94 0 ((6 * ((50 * v1) + v4)) + 1).toNatClampNeg) 1 r7 b hb hl) me_X12_reads vi_RX12_307 rfl rfl rfl rfl rfl dX12_runs_116 (fun r11 => ?_)
          refine s_ias aT_95 q4 dX12_runs_119 ?_
          refine s_goto (tgt := 191) dX12_runs_120 (by decide) ?_
          refine s_iincw 1 (by decide) 4 [(4, .inl (v4 + 1)), (5, .inl (6 * ((50 * v1) + v4))), (0, .inr (.inr (12, 0))), (1, .inl v1), (3, .inl v3)] rfl rfl rfl dX12_runs_191 ?_
          refine s_goto (tgt := 23) dX12_runs_194 (by decide) ?_
          exact s_loc [2, 3, 4, 0] rfl (ih v1 v3 (v4 + 1) (uI r11.2 95 0 v1.toNatClampNeg r11.1))
        refine s_case (fun q12 => ?_) (fun q12 => ?_)
        · skip
          refine s_tabP dX12_runs_62 1 q12 123 (by decide) (by decide) ?_
          refine s_aload0 1 rfl dX12_runs_123 ?_
          refine s_iload1 2 rfl dX12_runs_124 ?_
          refine s_iload 0 rfl dX12_runs_125 ?_
          refine s_viV [.inl v1, .inl (6 * ((50 * v1) + v4))] (fun l b hb hl => cf_X12_puts G l v1 (6 * ((50 * v1) + v4)) r7 b hb hl) me_X12_puts vi_RX12_314 rfl rfl rfl rfl rfl dX12_runs_127 (fun r13 => ?_)
          refine s_goto (tgt := 191) dX12_runs_130 (by decide) ?_
          refine s_iincw 1 (by decide) 4 [(4, .inl (v4 + 1)), (5, .inl (6 * ((50 * v1) + v4))), (0, .inr (.inr (12, 0))), (1, .inl v1), (3, .inl v3)] rfl rfl rfl dX12_runs_191 ?_
          refine s_goto (tgt := 23) dX12_runs_194 (by decide) ?_
          exact s_loc [2, 3, 4, 0] rfl (ih v1 v3 (v4 + 1) r13)
        refine s_case (fun q14 => ?_) (fun q14 => ?_)
        · skip
          refine s_tabP dX12_runs_62 2 q14 133 (by decide) (by decide) ?_
          refine s_aload0 1 rfl dX12_runs_133 ?_
          refine s_iload1 2 rfl dX12_runs_134 ?_
          refine s_iload 0 rfl dX12_runs_135 ?_
          refine s_viI [.inl v1, .inl (6 * ((50 * v1) + v4))] (fun l b hb hl => cf_X12_polls_2 G l v1 (6 * ((50 * v1) + v4)) r7 b hb hl) me_X12_polls vi_RX12_317 rfl rfl rfl rfl rfl dX12_runs_137 (fun r15 => ?_)
          refine s_istore3 [(3, .inl r15.1), (5, .inl (6 * ((50 * v1) + v4))), (0, .inr (.inr (12, 0))), (1, .inl v1), (4, .inl v4)] rfl rfl dX12_runs_140 ?_
          refine s_goto (tgt := 191) dX12_runs_141 (by decide) ?_
          refine s_iincw 1 (by decide) 4 [(4, .inl (v4 + 1)), (3, .inl r15.1), (5, .inl (6 * ((50 * v1) + v4))), (0, .inr (.inr (12, 0))), (1, .inl v1)] rfl rfl rfl dX12_runs_191 ?_
          refine s_goto (tgt := 23) dX12_runs_194 (by decide) ?_
          exact s_loc [3, 4, 1, 0] rfl (ih v1 r15.1 (v4 + 1) r15.2)
        refine s_case (fun q16 => ?_) (fun q16 => ?_)
        · skip
          refine s_tabP dX12_runs_62 3 q16 144 (by decide) (by decide) ?_
          refine s_aload0 1 rfl dX12_runs_144 ?_
          refine s_iload1 2 rfl dX12_runs_145 ?_
          refine s_aload0 1 rfl dX12_runs_146 ?_
          refine s_gr (gR_RX12_169 0) dX12_runs_147 ?_
          refine s_iload 0 rfl dX12_runs_150 ?_
          refine s_k1 dX12_runs_152 ?_
          refine s_iadd dX12_runs_153 ?_
          refine s_chk (fun q17 => ?_)
          refine s_ial aT_94 q17 dX12_runs_154 ?_
          refine s_viV [.inl v1, .inl (r7.1 94 0 ((6 * ((50 * v1) + v4)) + 1).toNatClampNeg)] (fun l b hb hl => cf_X12_pauses_2 G l v1 (r7.1 94 0 ((6 * ((50 * v1) + v4)) + 1).toNatClampNeg) r7 b hb hl) me_X12_pauses vi_RX12_320 rfl rfl rfl rfl rfl dX12_runs_155 (fun r18 => ?_)
          refine s_goto (tgt := 191) dX12_runs_158 (by decide) ?_
          refine s_iincw 1 (by decide) 4 [(4, .inl (v4 + 1)), (5, .inl (6 * ((50 * v1) + v4))), (0, .inr (.inr (12, 0))), (1, .inl v1), (3, .inl v3)] rfl rfl rfl dX12_runs_191 ?_
          refine s_goto (tgt := 23) dX12_runs_194 (by decide) ?_
          exact s_loc [2, 3, 4, 0] rfl (ih v1 v3 (v4 + 1) r18)
        refine s_case (fun q19 => ?_) (fun q19 => ?_)
        · skip
          refine s_tabP dX12_runs_62 4 q19 161 (by decide) (by decide) ?_
          refine s_aload0 1 rfl dX12_runs_161 ?_
          refine s_iload1 2 rfl dX12_runs_162 ?_
          refine s_aload0 1 rfl dX12_runs_163 ?_
          refine s_gr (gR_RX12_169 0) dX12_runs_164 ?_
          refine s_iload 0 rfl dX12_runs_167 ?_
          refine s_k1 dX12_runs_169 ?_
          refine s_iadd dX12_runs_170 ?_
          refine s_chk (fun q20 => ?_)
          refine s_ial aT_94 q20 dX12_runs_171 ?_
          refine s_viV [.inl v1, .inl (r7.1 94 0 ((6 * ((50 * v1) + v4)) + 1).toNatClampNeg)] (fun l b hb hl => cf_X12_picks G l v1 (r7.1 94 0 ((6 * ((50 * v1) + v4)) + 1).toNatClampNeg) r7 b hb hl) me_X12_picks vi_RX12_323 rfl rfl rfl rfl rfl dX12_runs_172 (fun r21 => ?_)
          refine s_goto (tgt := 191) dX12_runs_175 (by decide) ?_
          refine s_iincw 1 (by decide) 4 [(4, .inl (v4 + 1)), (5, .inl (6 * ((50 * v1) + v4))), (0, .inr (.inr (12, 0))), (1, .inl v1), (3, .inl v3)] rfl rfl rfl dX12_runs_191 ?_
          refine s_goto (tgt := 23) dX12_runs_194 (by decide) ?_
          exact s_loc [2, 3, 4, 0] rfl (ih v1 v3 (v4 + 1) r21)
        refine s_case (fun q22 => ?_) (fun q22 => ?_)
        · skip
          refine s_tabP dX12_runs_62 5 q22 178 (by decide) (by decide) ?_
          refine s_aload0 1 rfl dX12_runs_178 ?_
          refine s_k1 dX12_runs_179 ?_
          refine s_pz pI_RX12_292 (Or.inr rfl) dX12_runs_180 ?_
          refine s_goto (tgt := 191) dX12_runs_183 (by decide) ?_
          refine s_iincw 1 (by decide) 4 [(4, .inl (v4 + 1)), (5, .inl (6 * ((50 * v1) + v4))), (0, .inr (.inr (12, 0))), (1, .inl v1), (3, .inl v3)] rfl rfl rfl dX12_runs_191 ?_
          refine s_goto (tgt := 23) dX12_runs_194 (by decide) ?_
          exact s_loc [2, 3, 4, 0] rfl (ih v1 v3 (v4 + 1) (uI r7 12 0 67 1))
        refine s_tabD dX12_runs_62 [0, 1, 2, 3, 4, 5] (by refine List.forall_mem_cons.mpr ⟨q9, ?_⟩; refine List.forall_mem_cons.mpr ⟨q12, ?_⟩; refine List.forall_mem_cons.mpr ⟨q14, ?_⟩; refine List.forall_mem_cons.mpr ⟨q16, ?_⟩; refine List.forall_mem_cons.mpr ⟨q19, ?_⟩; refine List.forall_mem_cons.mpr ⟨q22, ?_⟩; exact fun _ z => absurd z List.not_mem_nil) (by decide) (by decide) 186 (by decide) ?_
        · skip
          refine s_aload0 1 rfl dX12_runs_186 ?_
          refine s_k0 dX12_runs_187 ?_
          refine s_pz pI_RX12_292 (Or.inl rfl) dX12_runs_188 ?_
          refine s_iincw 1 (by decide) 4 [(4, .inl (v4 + 1)), (5, .inl (6 * ((50 * v1) + v4))), (0, .inr (.inr (12, 0))), (1, .inl v1), (3, .inl v3)] rfl rfl rfl dX12_runs_191 ?_
          refine s_goto (tgt := 23) dX12_runs_194 (by decide) ?_
          exact s_loc [2, 3, 4, 0] rfl (ih v1 v3 (v4 + 1) (uI r7 12 0 67 0))
set_option maxRecDepth 20000 in
theorem sf_X12_runs_2 (G : mG) (X : mX) (x1 : Int32) (x2 : Int32)  (h : mH) : Sim G X cX12_runs 6 RX12 (some .boolean) (mRoom 9 213) eI (f_X12_runs_2 x1 x2 h) 0 [(0, .inr (.inr (12, 0))), (1, .inl x1), (2, .inl x2)] [] h := by
  unfold f_X12_runs_2
  refine s_aload0 0 rfl dX12_runs_0 ?_
  refine s_iload1 1 rfl dX12_runs_1 ?_
  refine s_iload2 2 rfl dX12_runs_2 ?_
  refine s_viV [.inl x1, .inl x2] (fun l b hb hl => cf_X12_makes G l x1 x2 h b hb hl) me_X12_makes vi_RX12_286 rfl rfl rfl rfl rfl dX12_runs_3 (fun r1 => ?_)
  refine s_aload0 0 rfl dX12_runs_6 ?_
  refine s_gr (gR_RX12_172 0) dX12_runs_7 ?_
  refine s_iload1 1 rfl dX12_runs_10 ?_
  refine s_k0 dX12_runs_11 ?_
  refine s_chk (fun q2 => ?_)
  refine s_ias aT_95 q2 dX12_runs_12 ?_
  refine s_aload0 0 rfl dX12_runs_13 ?_
  refine s_k0 dX12_runs_14 ?_
  refine s_let (fun h3 => ?_)
  refine s_pz pI_RX12_292 (Or.inl rfl) dX12_runs_15 ?_
  refine s_k0 dX12_runs_18 ?_
  refine s_istore3 [(3, .inl 0), (0, .inr (.inr (12, 0))), (1, .inl x1), (2, .inl x2)] rfl rfl dX12_runs_19 ?_
  refine s_k0 dX12_runs_20 ?_
  refine s_istorew [(4, .inl 0), (3, .inl 0), (0, .inr (.inr (12, 0))), (1, .inl x1), (2, .inl x2)] rfl rfl dX12_runs_21 ?_
  refine s_loc [2, 3, 1, 0] rfl ?_
  refine sf_X12_runs_2_23 G X  _ (fun u23 u24 u25 h26 => ?_) mFu x1 0 0 (uI h3 12 0 67 0)
  · skip
    refine s_aload0 0 rfl dX12_runs_197 ?_
    refine s_k0 dX12_runs_198 ?_
    refine s_pz pI_RX12_292 (Or.inl rfl) dX12_runs_199 ?_
    refine s_aload0 0 rfl dX12_runs_202 ?_
    refine s_iload1 1 rfl dX12_runs_203 ?_
    refine s_viV [.inl u23] (fun l b hb hl => cf_X12_handles_2 G l u23 (uI h26 12 0 67 0) b hb hl) me_X12_handles vi_RX12_303 rfl rfl rfl rfl rfl dX12_runs_204 (fun r27 => ?_)
    refine s_iload3 2 rfl dX12_runs_207 ?_
    refine s_chk (fun q28 => ?_)
    exact s_zreturn rfl rfl q28 dX12_runs_208
set_option maxRecDepth 20000 in
theorem cf_X12_runs_2 (G : mG) (l : Launch) (x1 : Int32) (x2 : Int32)  (h : mH) (b : Int32 × mH) (hb : f_X12_runs_2 x1 x2 h = some b) (hl : ∀ v ∈ ([.inr (.inr (12, 0)), .inl x1, .inl x2] : List mV), mLi v) : mMet G l yX12_runs cX12_runs 6 (some .boolean) (mRoom 9 213) [.inr (.inr (12, 0)), .inl x1, .inl x2] h (eI b) :=
  mMet.of (y := yX12_runs) (as := [.inr (.inr (12, 0)), .inl x1, .inl x2]) (by decide +kernel) (Nat.le_of_ble_eq_true rfl) (fun X => sf_X12_runs_2 G X x1 x2  h) hl b hb
-- DriverBookModel.run(I)I
def f_X12_run (x1 : Int32) (h : mH) : Option (Int32 × mH) :=
  (f_X12_isAct x1 h).bind fun r1 =>
  if r1.1 = 0 then
    some ((-1), r1.2)
  else
    (f_X12_runs_2 0 x1 r1.2).bind fun r3 =>
    if r3.1 = 0 then
      some ((r3.2.1 12 0 23) - (r1.2.1 12 0 23), r3.2)
    else
      some ((-5), r3.2)
set_option maxRecDepth 20000 in
theorem sf_X12_run (G : mG) (X : mX) (x1 : Int32)  (h : mH) : Sim G X cX12_run 4 RX12 (some .int) (mRoom 10 238) eI (f_X12_run x1 h) 0 [(0, .inr (.inr (12, 0))), (1, .inl x1)] [] h := by
  unfold f_X12_run
  refine s_aload0 0 rfl dX12_run_0 ?_
  refine s_iload1 1 rfl dX12_run_1 ?_
  refine s_viI [.inl x1] (fun l b hb hl => cf_X12_isAct G l x1 h b hb hl) me_X12_isAct vi_RX12_241 rfl rfl rfl rfl rfl dX12_run_2 (fun r1 => ?_)
  refine s_if_ne (tgt := 10) dX12_run_5 (by decide) (fun q2 => ?_) (fun q2 => ?_)
  · skip
    refine s_aload0 0 rfl dX12_run_10 ?_
    refine s_gi gI_RX12_198 dX12_run_11 ?_
    refine s_istore2 [(2, .inl (r1.2.1 12 0 23)), (0, .inr (.inr (12, 0))), (1, .inl x1)] rfl rfl dX12_run_14 ?_
    refine s_aload0 1 rfl dX12_run_15 ?_
    refine s_k0 dX12_run_16 ?_
    refine s_iload1 2 rfl dX12_run_17 ?_
    refine s_viI [.inl 0, .inl x1] (fun l b hb hl => cf_X12_runs_2 G l 0 x1 r1.2 b hb hl) me_X12_runs vi_RX12_300 rfl rfl rfl rfl rfl dX12_run_18 (fun r3 => ?_)
    refine s_istore3 [(3, .inl r3.1), (2, .inl (r1.2.1 12 0 23)), (0, .inr (.inr (12, 0))), (1, .inl x1)] rfl rfl dX12_run_21 ?_
    refine s_iload3 0 rfl dX12_run_22 ?_
    refine s_if_eq (tgt := 31) dX12_run_23 (by decide) (fun q4 => ?_) (fun q4 => ?_)
    · skip
      refine s_aload0 2 rfl dX12_run_31 ?_
      refine s_gi gI_RX12_198 dX12_run_32 ?_
      refine s_iload2 1 rfl dX12_run_35 ?_
      refine s_isub dX12_run_36 ?_
      exact s_ireturn rfl rfl dX12_run_37
    · skip
      refine s_bip (-5) kb_m5 dX12_run_26 ?_
      refine s_goto (tgt := 37) dX12_run_28 (by decide) ?_
      exact s_ireturn rfl rfl dX12_run_37
  · skip
    refine s_km1 dX12_run_8 ?_
    exact s_ireturn rfl rfl dX12_run_9
set_option maxRecDepth 20000 in
theorem cf_X12_run (G : mG) (l : Launch) (x1 : Int32)  (h : mH) (b : Int32 × mH) (hb : f_X12_run x1 h = some b) (hl : ∀ v ∈ ([.inr (.inr (12, 0)), .inl x1] : List mV), mLi v) : mMet G l yX12_run cX12_run 4 (some .int) (mRoom 10 238) [.inr (.inr (12, 0)), .inl x1] h (eI b) :=
  mMet.of (y := yX12_run) (as := [.inr (.inr (12, 0)), .inl x1]) (by decide +kernel) (Nat.le_of_ble_eq_true rfl) (fun X => sf_X12_run G X x1  h) hl b hb
-- DriverBookModel.read(I)I
def f_X12_read (x1 : Int32) (h : mH) : Option (Int32 × mH) :=
  (f_X12_isRegister x1 h).bind fun r1 =>
  if r1.1 = 0 then
    some ((-1), r1.2)
  else
    (f_X12_reads x1 0 r1.2).bind fun r3 =>
    some (r3.1, r3.2)
set_option maxRecDepth 20000 in
theorem sf_X12_read (G : mG) (X : mX) (x1 : Int32)  (h : mH) : Sim G X cX12_read 2 RX12 (some .int) (mRoom 3 68) eI (f_X12_read x1 h) 0 [(0, .inr (.inr (12, 0))), (1, .inl x1)] [] h := by
  unfold f_X12_read
  refine s_aload0 0 rfl dX12_read_0 ?_
  refine s_iload1 1 rfl dX12_read_1 ?_
  refine s_viI [.inl x1] (fun l b hb hl => cf_X12_isRegister G l x1 h b hb hl) me_X12_isRegister vi_RX12_231 rfl rfl rfl rfl rfl dX12_read_2 (fun r1 => ?_)
  refine s_if_eq (tgt := 17) dX12_read_5 (by decide) (fun q2 => ?_) (fun q2 => ?_)
  · skip
    refine s_km1 dX12_read_17 ?_
    exact s_ireturn rfl rfl dX12_read_18
  · skip
    refine s_aload0 0 rfl dX12_read_8 ?_
    refine s_iload1 1 rfl dX12_read_9 ?_
    refine s_k0 dX12_read_10 ?_
    refine s_viI [.inl x1, .inl 0] (fun l b hb hl => cf_X12_reads G l x1 0 r1.2 b hb hl) me_X12_reads vi_RX12_307 rfl rfl rfl rfl rfl dX12_read_11 (fun r3 => ?_)
    refine s_goto (tgt := 18) dX12_read_14 (by decide) ?_
    exact s_ireturn rfl rfl dX12_read_18
set_option maxRecDepth 20000 in
theorem cf_X12_read (G : mG) (l : Launch) (x1 : Int32)  (h : mH) (b : Int32 × mH) (hb : f_X12_read x1 h = some b) (hl : ∀ v ∈ ([.inr (.inr (12, 0)), .inl x1] : List mV), mLi v) : mMet G l yX12_read cX12_read 2 (some .int) (mRoom 3 68) [.inr (.inr (12, 0)), .inl x1] h (eI b) :=
  mMet.of (y := yX12_read) (as := [.inr (.inr (12, 0)), .inl x1]) (by decide +kernel) (Nat.le_of_ble_eq_true rfl) (fun X => sf_X12_read G X x1  h) hl b hb
-- DriverBookModel.write(II)I
def f_X12_write (x1 : Int32) (x2 : Int32) (h : mH) : Option (Int32 × mH) :=
  (f_X12_isRegister x1 h).bind fun r1 =>
  if r1.1 = 0 then
    some ((-1), r1.2)
  else
    (f_X12_in x2 0 65535 r1.2).bind fun r3 =>
    if r3.1 = 0 then
      some ((-1), r3.2)
    else
      (f_X12_writes x1 x2 r3.2).bind fun r5 =>
      (f_X12_ticks  r5).bind fun r6 =>
      some (r6.1 12 0 23, r6)
set_option maxRecDepth 20000 in
theorem sf_X12_write (G : mG) (X : mX) (x1 : Int32) (x2 : Int32)  (h : mH) : Sim G X cX12_write 3 RX12 (some .int) (mRoom 5 113) eI (f_X12_write x1 x2 h) 0 [(0, .inr (.inr (12, 0))), (1, .inl x1), (2, .inl x2)] [] h := by
  unfold f_X12_write
  refine s_aload0 0 rfl dX12_write_0 ?_
  refine s_iload1 1 rfl dX12_write_1 ?_
  refine s_viI [.inl x1] (fun l b hb hl => cf_X12_isRegister G l x1 h b hb hl) me_X12_isRegister vi_RX12_231 rfl rfl rfl rfl rfl dX12_write_2 (fun r1 => ?_)
  refine s_if_eq (tgt := 19) dX12_write_5 (by decide) (fun q2 => ?_) (fun q2 => ?_)
  · skip
    refine s_km1 dX12_write_19 ?_
    exact s_ireturn rfl rfl dX12_write_20
  · skip
    refine s_iload2 2 rfl dX12_write_8 ?_
    refine s_k0 dX12_write_9 ?_
    refine s_ldcw (v := 65535) kc_RX12_326 dX12_write_10 ?_
    refine s_siI [.inl x2, .inl 0, .inl 65535] (fun l b hb hl => cf_X12_in G l x2 0 65535 r1.2 b hb hl) me_X12_in si_RX12_184 rfl rfl rfl rfl rfl dX12_write_13 (fun r3 => ?_)
    refine s_if_ne (tgt := 21) dX12_write_16 (by decide) (fun q4 => ?_) (fun q4 => ?_)
    · skip
      refine s_aload0 0 rfl dX12_write_21 ?_
      refine s_iload1 1 rfl dX12_write_22 ?_
      refine s_iload2 2 rfl dX12_write_23 ?_
      refine s_viV [.inl x1, .inl x2] (fun l b hb hl => cf_X12_writes G l x1 x2 r3.2 b hb hl) me_X12_writes vi_RX12_311 rfl rfl rfl rfl rfl dX12_write_24 (fun r5 => ?_)
      refine s_aload0 0 rfl dX12_write_27 ?_
      refine s_viV [] (fun l b hb hl => cf_X12_ticks G l  r5 b hb hl) me_X12_ticks vi_RX12_244 rfl rfl rfl rfl rfl dX12_write_28 (fun r6 => ?_)
      refine s_aload0 0 rfl dX12_write_31 ?_
      refine s_gi gI_RX12_198 dX12_write_32 ?_
      exact s_ireturn rfl rfl dX12_write_35
    · skip
      refine s_km1 dX12_write_19 ?_
      exact s_ireturn rfl rfl dX12_write_20
set_option maxRecDepth 20000 in
theorem cf_X12_write (G : mG) (l : Launch) (x1 : Int32) (x2 : Int32)  (h : mH) (b : Int32 × mH) (hb : f_X12_write x1 x2 h = some b) (hl : ∀ v ∈ ([.inr (.inr (12, 0)), .inl x1, .inl x2] : List mV), mLi v) : mMet G l yX12_write cX12_write 3 (some .int) (mRoom 5 113) [.inr (.inr (12, 0)), .inl x1, .inl x2] h (eI b) :=
  mMet.of (y := yX12_write) (as := [.inr (.inr (12, 0)), .inl x1, .inl x2]) (by decide +kernel) (Nat.le_of_ble_eq_true rfl) (fun X => sf_X12_write G X x1 x2  h) hl b hb
-- DriverBookModel.wait(I)I
def f_X12_wait_14 (k : Int32 → Int32 → mH → Option (Int32 × mH))  : Nat → Int32 → Int32 → mH → Option (Int32 × mH)
  | 0, _, _, _ => none
  | n + 1, v1, v2, h =>
    if v2 < v1 then
      (f_X12_ticks  h).bind fun r4 =>
      f_X12_wait_14 k  n v1 (v2 + 1) r4
    else
      k v1 v2 h
def f_X12_wait (x1 : Int32) (h : mH) : Option (Int32 × mH) :=
  (f_X12_in x1 0 50 h).bind fun r1 =>
  if r1.1 = 0 then
    some ((-1), r1.2)
  else
    f_X12_wait_14 (fun u5 u6 h7 =>
      some (h7.1 12 0 23, h7))  mFu x1 0 r1.2
set_option maxRecDepth 20000 in
theorem sf_X12_wait_14 (G : mG) (X : mX)   (k : Int32 → Int32 → mH → Option (Int32 × mH)) (hk : ∀ (v1 : Int32) (v2 : Int32) (h : mH), Sim G X cX12_wait 3 RX12 (some .int) (mRoom 2 44) eI (k v1 v2 h) 29 [(0, .inr (.inr (12, 0))), (1, .inl v1), (2, .inl v2)] [] h) (n : Nat) : ∀ (v1 : Int32) (v2 : Int32) (h : mH), Sim G X cX12_wait 3 RX12 (some .int) (mRoom 2 44) eI (f_X12_wait_14 k  n v1 v2 h) 14 [(0, .inr (.inr (12, 0))), (1, .inl v1), (2, .inl v2)] [] h := by
  induction n with
  | zero =>
    intro v1 v2 h
    exact s_none
  | succ n ih =>
    intro v1 v2 h
    unfold f_X12_wait_14
    refine s_iload2 2 rfl dX12_wait_14 ?_
    refine s_iload1 1 rfl dX12_wait_15 ?_
    refine s_ic_ge (tgt := 29) dX12_wait_16 (by decide) (fun q3 => ?_) (fun q3 => ?_)
    · skip
      exact s_loc [0, 1, 2] rfl (hk v1 v2 h)
    · skip
      refine s_aload0 0 rfl dX12_wait_19 ?_
      refine s_viV [] (fun l b hb hl => cf_X12_ticks G l  h b hb hl) me_X12_ticks vi_RX12_244 rfl rfl rfl rfl rfl dX12_wait_20 (fun r4 => ?_)
      refine s_iincw 1 (by decide) 2 [(2, .inl (v2 + 1)), (0, .inr (.inr (12, 0))), (1, .inl v1)] rfl rfl rfl dX12_wait_23 ?_
      refine s_goto (tgt := 14) dX12_wait_26 (by decide) ?_
      exact s_loc [1, 2, 0] rfl (ih v1 (v2 + 1) r4)
set_option maxRecDepth 20000 in
theorem sf_X12_wait (G : mG) (X : mX) (x1 : Int32)  (h : mH) : Sim G X cX12_wait 3 RX12 (some .int) (mRoom 2 44) eI (f_X12_wait x1 h) 0 [(0, .inr (.inr (12, 0))), (1, .inl x1)] [] h := by
  unfold f_X12_wait
  refine s_iload1 1 rfl dX12_wait_0 ?_
  refine s_k0 dX12_wait_1 ?_
  refine s_bip 50 kb_50 dX12_wait_2 ?_
  refine s_siI [.inl x1, .inl 0, .inl 50] (fun l b hb hl => cf_X12_in G l x1 0 50 h b hb hl) me_X12_in si_RX12_184 rfl rfl rfl rfl rfl dX12_wait_4 (fun r1 => ?_)
  refine s_if_ne (tgt := 12) dX12_wait_7 (by decide) (fun q2 => ?_) (fun q2 => ?_)
  · skip
    refine s_k0 dX12_wait_12 ?_
    refine s_istore2 [(2, .inl 0), (0, .inr (.inr (12, 0))), (1, .inl x1)] rfl rfl dX12_wait_13 ?_
    refine s_loc [1, 2, 0] rfl ?_
    refine sf_X12_wait_14 G X  _ (fun u5 u6 h7 => ?_) mFu x1 0 r1.2
    · skip
      refine s_aload0 0 rfl dX12_wait_29 ?_
      refine s_gi gI_RX12_198 dX12_wait_30 ?_
      exact s_ireturn rfl rfl dX12_wait_33
  · skip
    refine s_km1 dX12_wait_10 ?_
    exact s_ireturn rfl rfl dX12_wait_11
set_option maxRecDepth 20000 in
theorem cf_X12_wait (G : mG) (l : Launch) (x1 : Int32)  (h : mH) (b : Int32 × mH) (hb : f_X12_wait x1 h = some b) (hl : ∀ v ∈ ([.inr (.inr (12, 0)), .inl x1] : List mV), mLi v) : mMet G l yX12_wait cX12_wait 3 (some .int) (mRoom 2 44) [.inr (.inr (12, 0)), .inl x1] h (eI b) :=
  mMet.of (y := yX12_wait) (as := [.inr (.inr (12, 0)), .inl x1]) (by decide +kernel) (Nat.le_of_ble_eq_true rfl) (fun X => sf_X12_wait G X x1  h) hl b hb
-- DriverBookModel.peek(II)I
def f_X12_peek (x1 : Int32) (x2 : Int32) (h : mH) : Option (Int32 × mH) :=
  (f_X12_isField x1 h).bind fun r1 =>
  if r1.1 = 0 then
    some ((-1), r1.2)
  else
    (f_X12_in x2 0 3 r1.2).bind fun r3 =>
    if r3.1 = 0 then
      some ((-1), r3.2)
    else
      if mIn x1 24 = true then
      if x2 = 0 then
        some (r3.2.1 63 0 x1.toNatClampNeg, r3.2)
      else
      if x2 = 1 then
        if (r3.2.1 49 0 x1.toNatClampNeg) = 5 then
          some (r3.2.1 64 0 x1.toNatClampNeg, r3.2)
        else
          some ((-4), r3.2)
      else
      if x2 = 2 then
        if (r3.2.1 49 0 x1.toNatClampNeg) = 4 then
          some (r3.2.1 65 0 x1.toNatClampNeg, r3.2)
        else
          some ((-4), r3.2)
      else
        if (r3.2.1 49 0 x1.toNatClampNeg) = 3 then
          some (r3.2.1 66 0 x1.toNatClampNeg, r3.2)
        else
          some ((-4), r3.2)
      else none
set_option maxRecDepth 20000 in
theorem sf_X12_peek (G : mG) (X : mX) (x1 : Int32) (x2 : Int32)  (h : mH) : Sim G X cX12_peek 4 RX12 (some .int) (mRoom 2 43) eI (f_X12_peek x1 x2 h) 0 [(0, .inr (.inr (12, 0))), (1, .inl x1), (2, .inl x2)] [] h := by
  unfold f_X12_peek
  refine s_aload0 0 rfl dX12_peek_0 ?_
  refine s_iload1 1 rfl dX12_peek_1 ?_
  refine s_viI [.inl x1] (fun l b hb hl => cf_X12_isField G l x1 h b hb hl) me_X12_isField vi_RX12_238 rfl rfl rfl rfl rfl dX12_peek_2 (fun r1 => ?_)
  refine s_if_eq (tgt := 17) dX12_peek_5 (by decide) (fun q2 => ?_) (fun q2 => ?_)
  · skip
    refine s_km1 dX12_peek_17 ?_
    exact s_ireturn rfl rfl dX12_peek_18
  · skip
    refine s_iload2 2 rfl dX12_peek_8 ?_
    refine s_k0 dX12_peek_9 ?_
    refine s_k3 dX12_peek_10 ?_
    refine s_siI [.inl x2, .inl 0, .inl 3] (fun l b hb hl => cf_X12_in G l x2 0 3 r1.2 b hb hl) me_X12_in si_RX12_184 rfl rfl rfl rfl rfl dX12_peek_11 (fun r3 => ?_)
    refine s_if_ne (tgt := 19) dX12_peek_14 (by decide) (fun q4 => ?_) (fun q4 => ?_)
    · skip
      refine s_aload0 0 rfl dX12_peek_19 ?_
      refine s_gr (gR_RX12_23 0) dX12_peek_20 ?_
      refine s_iload1 1 rfl dX12_peek_23 ?_
      refine s_chk (fun q5 => ?_)
      refine s_ial aT_49 q5 dX12_peek_24 ?_
      refine s_istore3 [(3, .inl (r3.2.1 49 0 x1.toNatClampNeg)), (0, .inr (.inr (12, 0))), (1, .inl x1), (2, .inl x2)] rfl rfl dX12_peek_25 ?_
      refine s_iload2 3 rfl dX12_peek_26 ?_
      refine s_case (fun q6 => ?_) (fun q6 => ?_)
      · skip
        refine s_tabP dX12_peek_27 0 q6 52 (by decide) (by decide) ?_
        refine s_aload0 1 rfl dX12_peek_52 ?_
        refine s_gr (gR_RX12_68 0) dX12_peek_53 ?_
        refine s_iload1 2 rfl dX12_peek_56 ?_
        refine s_ial aT_63 q5 dX12_peek_57 ?_
        exact s_ireturn rfl rfl dX12_peek_58
      refine s_case (fun q7 => ?_) (fun q7 => ?_)
      · skip
        refine s_tabP dX12_peek_27 1 q7 59 (by decide) (by decide) ?_
        refine s_iload3 0 rfl dX12_peek_59 ?_
        refine s_k5 dX12_peek_60 ?_
        refine s_ic_ne (tgt := 73) dX12_peek_61 (by decide) (fun q8 => ?_) (fun q8 => ?_)
        · skip
          refine s_bip (-4) kb_m4 dX12_peek_73 ?_
          exact s_ireturn rfl rfl dX12_peek_75
        · skip
          refine s_aload0 1 rfl dX12_peek_64 ?_
          refine s_gr (gR_RX12_71 0) dX12_peek_65 ?_
          refine s_iload1 2 rfl dX12_peek_68 ?_
          refine s_ial aT_64 q5 dX12_peek_69 ?_
          refine s_goto (tgt := 75) dX12_peek_70 (by decide) ?_
          exact s_ireturn rfl rfl dX12_peek_75
      refine s_case (fun q9 => ?_) (fun q9 => ?_)
      · skip
        refine s_tabP dX12_peek_27 2 q9 76 (by decide) (by decide) ?_
        refine s_iload3 0 rfl dX12_peek_76 ?_
        refine s_k4 dX12_peek_77 ?_
        refine s_ic_ne (tgt := 90) dX12_peek_78 (by decide) (fun q10 => ?_) (fun q10 => ?_)
        · skip
          refine s_bip (-4) kb_m4 dX12_peek_90 ?_
          exact s_ireturn rfl rfl dX12_peek_92
        · skip
          refine s_aload0 1 rfl dX12_peek_81 ?_
          refine s_gr (gR_RX12_74 0) dX12_peek_82 ?_
          refine s_iload1 2 rfl dX12_peek_85 ?_
          refine s_ial aT_65 q5 dX12_peek_86 ?_
          refine s_goto (tgt := 92) dX12_peek_87 (by decide) ?_
          exact s_ireturn rfl rfl dX12_peek_92
      refine s_tabD dX12_peek_27 [0, 1, 2] (by refine List.forall_mem_cons.mpr ⟨q6, ?_⟩; refine List.forall_mem_cons.mpr ⟨q7, ?_⟩; refine List.forall_mem_cons.mpr ⟨q9, ?_⟩; exact fun _ z => absurd z List.not_mem_nil) (by decide) (by decide) 93 (by decide) ?_
      · skip
        refine s_iload3 0 rfl dX12_peek_93 ?_
        refine s_k3 dX12_peek_94 ?_
        refine s_ic_ne (tgt := 107) dX12_peek_95 (by decide) (fun q11 => ?_) (fun q11 => ?_)
        · skip
          refine s_bip (-4) kb_m4 dX12_peek_107 ?_
          exact s_ireturn rfl rfl dX12_peek_109
        · skip
          refine s_aload0 1 rfl dX12_peek_98 ?_
          refine s_gr (gR_RX12_77 0) dX12_peek_99 ?_
          refine s_iload1 2 rfl dX12_peek_102 ?_
          refine s_ial aT_66 q5 dX12_peek_103 ?_
          refine s_goto (tgt := 109) dX12_peek_104 (by decide) ?_
          exact s_ireturn rfl rfl dX12_peek_109
    · skip
      refine s_km1 dX12_peek_17 ?_
      exact s_ireturn rfl rfl dX12_peek_18
set_option maxRecDepth 20000 in
theorem cf_X12_peek (G : mG) (l : Launch) (x1 : Int32) (x2 : Int32)  (h : mH) (b : Int32 × mH) (hb : f_X12_peek x1 x2 h = some b) (hl : ∀ v ∈ ([.inr (.inr (12, 0)), .inl x1, .inl x2] : List mV), mLi v) : mMet G l yX12_peek cX12_peek 4 (some .int) (mRoom 2 43) [.inr (.inr (12, 0)), .inl x1, .inl x2] h (eI b) :=
  mMet.of (y := yX12_peek) (as := [.inr (.inr (12, 0)), .inl x1, .inl x2]) (by decide +kernel) (Nat.le_of_ble_eq_true rfl) (fun X => sf_X12_peek G X x1 x2  h) hl b hb
-- DriverBookModel.shadow(I)I
def f_X12_shadow (x1 : Int32) (h : mH) : Option (Int32 × mH) :=
  (f_X12_isRegister x1 h).bind fun r1 =>
  if r1.1 = 0 then
    some ((-1), r1.2)
  else
    if mIn x1 8 = true then
    some (r1.2.1 68 0 x1.toNatClampNeg, r1.2)
    else none
set_option maxRecDepth 20000 in
theorem sf_X12_shadow (G : mG) (X : mX) (x1 : Int32)  (h : mH) : Sim G X cX12_shadow 2 RX12 (some .int) (mRoom 2 43) eI (f_X12_shadow x1 h) 0 [(0, .inr (.inr (12, 0))), (1, .inl x1)] [] h := by
  unfold f_X12_shadow
  refine s_aload0 0 rfl dX12_shadow_0 ?_
  refine s_iload1 1 rfl dX12_shadow_1 ?_
  refine s_viI [.inl x1] (fun l b hb hl => cf_X12_isRegister G l x1 h b hb hl) me_X12_isRegister vi_RX12_231 rfl rfl rfl rfl rfl dX12_shadow_2 (fun r1 => ?_)
  refine s_if_eq (tgt := 17) dX12_shadow_5 (by decide) (fun q2 => ?_) (fun q2 => ?_)
  · skip
    refine s_km1 dX12_shadow_17 ?_
    exact s_ireturn rfl rfl dX12_shadow_18
  · skip
    refine s_aload0 0 rfl dX12_shadow_8 ?_
    refine s_gr (gR_RX12_83 0) dX12_shadow_9 ?_
    refine s_iload1 1 rfl dX12_shadow_12 ?_
    refine s_chk (fun q3 => ?_)
    refine s_ial aT_68 q3 dX12_shadow_13 ?_
    refine s_goto (tgt := 18) dX12_shadow_14 (by decide) ?_
    exact s_ireturn rfl rfl dX12_shadow_18
set_option maxRecDepth 20000 in
theorem cf_X12_shadow (G : mG) (l : Launch) (x1 : Int32)  (h : mH) (b : Int32 × mH) (hb : f_X12_shadow x1 h = some b) (hl : ∀ v ∈ ([.inr (.inr (12, 0)), .inl x1] : List mV), mLi v) : mMet G l yX12_shadow cX12_shadow 2 (some .int) (mRoom 2 43) [.inr (.inr (12, 0)), .inl x1] h (eI b) :=
  mMet.of (y := yX12_shadow) (as := [.inr (.inr (12, 0)), .inl x1]) (by decide +kernel) (Nat.le_of_ble_eq_true rfl) (fun X => sf_X12_shadow G X x1  h) hl b hb
-- DriverBookModel.result()I
def f_X12_result  (h : mH) : Option (Int32 × mH) :=
  some (h.1 12 0 38, h)
set_option maxRecDepth 20000 in
theorem sf_X12_result (G : mG) (X : mX)   (h : mH) : Sim G X cX12_result 1 RX12 (some .int) (mRoom 0 0) eI (f_X12_result  h) 0 [(0, .inr (.inr (12, 0)))] [] h := by
  unfold f_X12_result
  refine s_aload0 0 rfl dX12_result_0 ?_
  refine s_gi gI_RX12_216 dX12_result_1 ?_
  exact s_ireturn rfl rfl dX12_result_4
set_option maxRecDepth 20000 in
theorem cf_X12_result (G : mG) (l : Launch)   (h : mH) (b : Int32 × mH) (hb : f_X12_result  h = some b) (hl : ∀ v ∈ ([.inr (.inr (12, 0))] : List mV), mLi v) : mMet G l yX12_result cX12_result 1 (some .int) (mRoom 0 0) [.inr (.inr (12, 0))] h (eI b) :=
  mMet.of (y := yX12_result) (as := [.inr (.inr (12, 0))]) (by decide +kernel) (Nat.le_of_ble_eq_true rfl) (fun X => sf_X12_result G X   h) hl b hb
-- DriverBookModel.breaks(I)I
def f_X12_breaks (x1 : Int32) (h : mH) : Option (Int32 × mH) :=
  if x1 = 0 then
    some (h.1 12 0 34, h)
  else
    if (h.1 12 0 34) = 0 then
      some ((-1), h)
    else
      if x1 = 1 then
        some (h.1 12 0 35, h)
      else
        if x1 = 2 then
          some (h.1 12 0 36, h)
        else
          some ((-1), h)
set_option maxRecDepth 20000 in
theorem sf_X12_breaks (G : mG) (X : mX) (x1 : Int32)  (h : mH) : Sim G X cX12_breaks 2 RX12 (some .int) (mRoom 0 0) eI (f_X12_breaks x1 h) 0 [(0, .inr (.inr (12, 0))), (1, .inl x1)] [] h := by
  unfold f_X12_breaks
  refine s_iload1 1 rfl dX12_breaks_0 ?_
  refine s_if_ne (tgt := 9) dX12_breaks_1 (by decide) (fun q1 => ?_) (fun q1 => ?_)
  · skip
    refine s_aload0 0 rfl dX12_breaks_9 ?_
    refine s_gi gI_RX12_204 dX12_breaks_10 ?_
    refine s_if_ne (tgt := 20) dX12_breaks_13 (by decide) (fun q2 => ?_) (fun q2 => ?_)
    · skip
      refine s_iload1 1 rfl dX12_breaks_20 ?_
      refine s_k1 dX12_breaks_21 ?_
      refine s_ic_ne (tgt := 32) dX12_breaks_22 (by decide) (fun q3 => ?_) (fun q3 => ?_)
      · skip
        refine s_iload1 1 rfl dX12_breaks_32 ?_
        refine s_k2 dX12_breaks_33 ?_
        refine s_ic_ne (tgt := 44) dX12_breaks_34 (by decide) (fun q4 => ?_) (fun q4 => ?_)
        · skip
          refine s_km1 dX12_breaks_44 ?_
          exact s_ireturn rfl rfl dX12_breaks_45
        · skip
          refine s_aload0 0 rfl dX12_breaks_37 ?_
          refine s_gi gI_RX12_210 dX12_breaks_38 ?_
          refine s_goto (tgt := 45) dX12_breaks_41 (by decide) ?_
          exact s_ireturn rfl rfl dX12_breaks_45
      · skip
        refine s_aload0 0 rfl dX12_breaks_25 ?_
        refine s_gi gI_RX12_207 dX12_breaks_26 ?_
        refine s_goto (tgt := 45) dX12_breaks_29 (by decide) ?_
        exact s_ireturn rfl rfl dX12_breaks_45
    · skip
      refine s_km1 dX12_breaks_16 ?_
      refine s_goto (tgt := 45) dX12_breaks_17 (by decide) ?_
      exact s_ireturn rfl rfl dX12_breaks_45
  · skip
    refine s_aload0 0 rfl dX12_breaks_4 ?_
    refine s_gi gI_RX12_204 dX12_breaks_5 ?_
    exact s_ireturn rfl rfl dX12_breaks_8
set_option maxRecDepth 20000 in
theorem cf_X12_breaks (G : mG) (l : Launch) (x1 : Int32)  (h : mH) (b : Int32 × mH) (hb : f_X12_breaks x1 h = some b) (hl : ∀ v ∈ ([.inr (.inr (12, 0)), .inl x1] : List mV), mLi v) : mMet G l yX12_breaks cX12_breaks 2 (some .int) (mRoom 0 0) [.inr (.inr (12, 0)), .inl x1] h (eI b) :=
  mMet.of (y := yX12_breaks) (as := [.inr (.inr (12, 0)), .inl x1]) (by decide +kernel) (Nat.le_of_ble_eq_true rfl) (fun X => sf_X12_breaks G X x1  h) hl b hb
-- DriverBookModel.stores(I)V
def f_X12_stores_82 (k : Int32 → Int32 → mH → Option (mH))  : Nat → Int32 → Int32 → mH → Option (mH)
  | 0, _, _, _ => none
  | n + 1, v1, v2, h =>
    if v2 < 24 then
      if mIn v2 24 = true then
      if mIn ((24 * v1) + v2) 192 = true then
      mLet (uI h 73 0 ((24 * v1) + v2).toNatClampNeg (h.1 63 0 v2.toNatClampNeg)) fun h12 =>
      mLet (uI h12 74 0 ((24 * v1) + v2).toNatClampNeg (h12.1 64 0 v2.toNatClampNeg)) fun h13 =>
      mLet (uI h13 75 0 ((24 * v1) + v2).toNatClampNeg (h13.1 65 0 v2.toNatClampNeg)) fun h14 =>
      mLet (uI h14 76 0 ((24 * v1) + v2).toNatClampNeg (h14.1 66 0 v2.toNatClampNeg)) fun h15 =>
      f_X12_stores_82 k  n v1 (v2 + 1) (uI h15 77 0 ((24 * v1) + v2).toNatClampNeg (h15.1 67 0 v2.toNatClampNeg))
      else none
      else none
    else
      k v1 v2 h
def f_X12_stores_181 (k : Int32 → Int32 → mH → Option (mH))  : Nat → Int32 → Int32 → mH → Option (mH)
  | 0, _, _, _ => none
  | n + 1, v1, v2, h =>
    if v2 < 8 then
      if mIn v2 8 = true then
      if mIn ((8 * v1) + v2) 64 = true then
      f_X12_stores_181 k  n v1 (v2 + 1) (uI h 78 0 ((8 * v1) + v2).toNatClampNeg (h.1 68 0 v2.toNatClampNeg))
      else none
      else none
    else
      k v1 v2 h
def f_X12_stores_212 (k : Int32 → Int32 → mH → Option (mH))  : Nat → Int32 → Int32 → mH → Option (mH)
  | 0, _, _, _ => none
  | n + 1, v1, v2, h =>
    if v2 < (h.1 12 0 30) then
      if mIn v2 17 = true then
      if mIn ((17 * v1) + v2) 136 = true then
      mLet (uI h 80 0 ((17 * v1) + v2).toNatClampNeg (h.1 69 0 v2.toNatClampNeg)) fun h28 =>
      mLet (uI h28 81 0 ((17 * v1) + v2).toNatClampNeg (h28.1 70 0 v2.toNatClampNeg)) fun h29 =>
      f_X12_stores_212 k  n v1 (v2 + 1) (uI h29 82 0 ((17 * v1) + v2).toNatClampNeg (h29.1 71 0 v2.toNatClampNeg))
      else none
      else none
    else
      k v1 v2 h
def f_X12_stores (x1 : Int32) (h : mH) : Option (mH) :=
  if mIn x1 8 = true then
  mLet (uI h 72 0 x1.toNatClampNeg (h.1 12 0 23)) fun h2 =>
  mLet (uI h2 79 0 x1.toNatClampNeg (h2.1 12 0 30)) fun h3 =>
  mLet (uI h3 83 0 x1.toNatClampNeg (h3.1 12 0 34)) fun h4 =>
  mLet (uI h4 84 0 x1.toNatClampNeg (h4.1 12 0 35)) fun h5 =>
  mLet (uI h5 85 0 x1.toNatClampNeg (h5.1 12 0 36)) fun h6 =>
  mLet (uI h6 86 0 x1.toNatClampNeg (h6.1 12 0 37)) fun h7 =>
  mLet (uI h7 87 0 x1.toNatClampNeg (h7.1 12 0 38)) fun h8 =>
  f_X12_stores_82 (fun u16 u17 h18 =>
    f_X12_stores_181 (fun u22 u23 h24 =>
      f_X12_stores_212 (fun u30 u31 h32 =>
        some h32)  mFu u22 0 h24)  mFu u16 0 h18)  mFu x1 0 (uI h8 88 0 x1.toNatClampNeg (h8.1 12 0 55))
  else none
set_option maxRecDepth 20000 in
theorem sf_X12_stores_82 (G : mG) (X : mX)   (k : Int32 → Int32 → mH → Option (mH)) (hk : ∀ (v1 : Int32) (v2 : Int32) (h : mH), Sim G X cX12_stores 3 RX12 none (mRoom 0 0) eV (k v1 v2 h) 179 [(0, .inr (.inr (12, 0))), (1, .inl v1), (2, .inl v2)] [] h) (n : Nat) : ∀ (v1 : Int32) (v2 : Int32) (h : mH), Sim G X cX12_stores 3 RX12 none (mRoom 0 0) eV (f_X12_stores_82 k  n v1 v2 h) 82 [(0, .inr (.inr (12, 0))), (1, .inl v1), (2, .inl v2)] [] h := by
  induction n with
  | zero =>
    intro v1 v2 h
    exact s_none
  | succ n ih =>
    intro v1 v2 h
    unfold f_X12_stores_82
    refine s_iload2 2 rfl dX12_stores_82 ?_
    refine s_bip 24 kb_24 dX12_stores_83 ?_
    refine s_ic_ge (tgt := 179) dX12_stores_85 (by decide) (fun q9 => ?_) (fun q9 => ?_)
    · skip
      exact s_loc [0, 1, 2] rfl (hk v1 v2 h)
    · skip
      refine s_aload0 0 rfl dX12_stores_88 ?_
      refine s_gr (gR_RX12_98 0) dX12_stores_89 ?_
      refine s_bip 24 kb_24 dX12_stores_92 ?_
      refine s_iload1 1 rfl dX12_stores_94 ?_
      refine s_imul dX12_stores_95 ?_
      refine s_iload2 2 rfl dX12_stores_96 ?_
      refine s_iadd dX12_stores_97 ?_
      refine s_aload0 0 rfl dX12_stores_98 ?_
      refine s_gr (gR_RX12_68 0) dX12_stores_99 ?_
      refine s_iload2 2 rfl dX12_stores_102 ?_
      refine s_chk (fun q10 => ?_)
      refine s_ial aT_63 q10 dX12_stores_103 ?_
      refine s_chk (fun q11 => ?_)
      refine s_ias aT_73 q11 dX12_stores_104 ?_
      refine s_aload0 0 rfl dX12_stores_105 ?_
      refine s_gr (gR_RX12_101 0) dX12_stores_106 ?_
      refine s_bip 24 kb_24 dX12_stores_109 ?_
      refine s_iload1 1 rfl dX12_stores_111 ?_
      refine s_imul dX12_stores_112 ?_
      refine s_iload2 2 rfl dX12_stores_113 ?_
      refine s_iadd dX12_stores_114 ?_
      refine s_aload0 0 rfl dX12_stores_115 ?_
      refine s_gr (gR_RX12_71 0) dX12_stores_116 ?_
      refine s_iload2 2 rfl dX12_stores_119 ?_
      refine s_let (fun h12 => ?_)
      refine s_ial aT_64 q10 dX12_stores_120 ?_
      refine s_ias aT_74 q11 dX12_stores_121 ?_
      refine s_aload0 0 rfl dX12_stores_122 ?_
      refine s_gr (gR_RX12_104 0) dX12_stores_123 ?_
      refine s_bip 24 kb_24 dX12_stores_126 ?_
      refine s_iload1 1 rfl dX12_stores_128 ?_
      refine s_imul dX12_stores_129 ?_
      refine s_iload2 2 rfl dX12_stores_130 ?_
      refine s_iadd dX12_stores_131 ?_
      refine s_aload0 0 rfl dX12_stores_132 ?_
      refine s_gr (gR_RX12_74 0) dX12_stores_133 ?_
      refine s_iload2 2 rfl dX12_stores_136 ?_
      refine s_let (fun h13 => ?_)
      refine s_ial aT_65 q10 dX12_stores_137 ?_
      refine s_ias aT_75 q11 dX12_stores_138 ?_
      refine s_aload0 0 rfl dX12_stores_139 ?_
      refine s_gr (gR_RX12_107 0) dX12_stores_140 ?_
      refine s_bip 24 kb_24 dX12_stores_143 ?_
      refine s_iload1 1 rfl dX12_stores_145 ?_
      refine s_imul dX12_stores_146 ?_
      refine s_iload2 2 rfl dX12_stores_147 ?_
      refine s_iadd dX12_stores_148 ?_
      refine s_aload0 0 rfl dX12_stores_149 ?_
      refine s_gr (gR_RX12_77 0) dX12_stores_150 ?_
      refine s_iload2 2 rfl dX12_stores_153 ?_
      refine s_let (fun h14 => ?_)
      refine s_ial aT_66 q10 dX12_stores_154 ?_
      refine s_ias aT_76 q11 dX12_stores_155 ?_
      refine s_aload0 0 rfl dX12_stores_156 ?_
      refine s_gr (gR_RX12_110 0) dX12_stores_157 ?_
      refine s_bip 24 kb_24 dX12_stores_160 ?_
      refine s_iload1 1 rfl dX12_stores_162 ?_
      refine s_imul dX12_stores_163 ?_
      refine s_iload2 2 rfl dX12_stores_164 ?_
      refine s_iadd dX12_stores_165 ?_
      refine s_aload0 0 rfl dX12_stores_166 ?_
      refine s_gr (gR_RX12_80 0) dX12_stores_167 ?_
      refine s_iload2 2 rfl dX12_stores_170 ?_
      refine s_let (fun h15 => ?_)
      refine s_ial aT_67 q10 dX12_stores_171 ?_
      refine s_ias aT_77 q11 dX12_stores_172 ?_
      refine s_iincw 1 (by decide) 2 [(2, .inl (v2 + 1)), (0, .inr (.inr (12, 0))), (1, .inl v1)] rfl rfl rfl dX12_stores_173 ?_
      refine s_goto (tgt := 82) dX12_stores_176 (by decide) ?_
      exact s_loc [1, 2, 0] rfl (ih v1 (v2 + 1) (uI h15 77 0 ((24 * v1) + v2).toNatClampNeg (h15.1 67 0 v2.toNatClampNeg)))
set_option maxRecDepth 20000 in
theorem sf_X12_stores_181 (G : mG) (X : mX)   (k : Int32 → Int32 → mH → Option (mH)) (hk : ∀ (v1 : Int32) (v2 : Int32) (h : mH), Sim G X cX12_stores 3 RX12 none (mRoom 0 0) eV (k v1 v2 h) 210 [(0, .inr (.inr (12, 0))), (1, .inl v1), (2, .inl v2)] [] h) (n : Nat) : ∀ (v1 : Int32) (v2 : Int32) (h : mH), Sim G X cX12_stores 3 RX12 none (mRoom 0 0) eV (f_X12_stores_181 k  n v1 v2 h) 181 [(0, .inr (.inr (12, 0))), (1, .inl v1), (2, .inl v2)] [] h := by
  induction n with
  | zero =>
    intro v1 v2 h
    exact s_none
  | succ n ih =>
    intro v1 v2 h
    unfold f_X12_stores_181
    refine s_iload2 2 rfl dX12_stores_181 ?_
    refine s_bip 8 kb_8 dX12_stores_182 ?_
    refine s_ic_ge (tgt := 210) dX12_stores_184 (by decide) (fun q19 => ?_) (fun q19 => ?_)
    · skip
      exact s_loc [0, 1, 2] rfl (hk v1 v2 h)
    · skip
      refine s_aload0 0 rfl dX12_stores_187 ?_
      refine s_gr (gR_RX12_113 0) dX12_stores_188 ?_
      refine s_bip 8 kb_8 dX12_stores_191 ?_
      refine s_iload1 1 rfl dX12_stores_193 ?_
      refine s_imul dX12_stores_194 ?_
      refine s_iload2 2 rfl dX12_stores_195 ?_
      refine s_iadd dX12_stores_196 ?_
      refine s_aload0 0 rfl dX12_stores_197 ?_
      refine s_gr (gR_RX12_83 0) dX12_stores_198 ?_
      refine s_iload2 2 rfl dX12_stores_201 ?_
      refine s_chk (fun q20 => ?_)
      refine s_ial aT_68 q20 dX12_stores_202 ?_
      refine s_chk (fun q21 => ?_)
      refine s_ias aT_78 q21 dX12_stores_203 ?_
      refine s_iincw 1 (by decide) 2 [(2, .inl (v2 + 1)), (0, .inr (.inr (12, 0))), (1, .inl v1)] rfl rfl rfl dX12_stores_204 ?_
      refine s_goto (tgt := 181) dX12_stores_207 (by decide) ?_
      exact s_loc [1, 2, 0] rfl (ih v1 (v2 + 1) (uI h 78 0 ((8 * v1) + v2).toNatClampNeg (h.1 68 0 v2.toNatClampNeg)))
set_option maxRecDepth 20000 in
theorem sf_X12_stores_212 (G : mG) (X : mX)   (k : Int32 → Int32 → mH → Option (mH)) (hk : ∀ (v1 : Int32) (v2 : Int32) (h : mH), Sim G X cX12_stores 3 RX12 none (mRoom 0 0) eV (k v1 v2 h) 277 [(0, .inr (.inr (12, 0))), (1, .inl v1), (2, .inl v2)] [] h) (n : Nat) : ∀ (v1 : Int32) (v2 : Int32) (h : mH), Sim G X cX12_stores 3 RX12 none (mRoom 0 0) eV (f_X12_stores_212 k  n v1 v2 h) 212 [(0, .inr (.inr (12, 0))), (1, .inl v1), (2, .inl v2)] [] h := by
  induction n with
  | zero =>
    intro v1 v2 h
    exact s_none
  | succ n ih =>
    intro v1 v2 h
    unfold f_X12_stores_212
    refine s_iload2 2 rfl dX12_stores_212 ?_
    refine s_aload0 0 rfl dX12_stores_213 ?_
    refine s_gi gI_RX12_201 dX12_stores_214 ?_
    refine s_ic_ge (tgt := 277) dX12_stores_217 (by decide) (fun q25 => ?_) (fun q25 => ?_)
    · skip
      exact s_loc [0, 1, 2] rfl (hk v1 v2 h)
    · skip
      refine s_aload0 0 rfl dX12_stores_220 ?_
      refine s_gr (gR_RX12_119 0) dX12_stores_221 ?_
      refine s_bip 17 kb_17 dX12_stores_224 ?_
      refine s_iload1 1 rfl dX12_stores_226 ?_
      refine s_imul dX12_stores_227 ?_
      refine s_iload2 2 rfl dX12_stores_228 ?_
      refine s_iadd dX12_stores_229 ?_
      refine s_aload0 0 rfl dX12_stores_230 ?_
      refine s_gr (gR_RX12_86 0) dX12_stores_231 ?_
      refine s_iload2 2 rfl dX12_stores_234 ?_
      refine s_chk (fun q26 => ?_)
      refine s_ial aT_69 q26 dX12_stores_235 ?_
      refine s_chk (fun q27 => ?_)
      refine s_ias aT_80 q27 dX12_stores_236 ?_
      refine s_aload0 0 rfl dX12_stores_237 ?_
      refine s_gr (gR_RX12_122 0) dX12_stores_238 ?_
      refine s_bip 17 kb_17 dX12_stores_241 ?_
      refine s_iload1 1 rfl dX12_stores_243 ?_
      refine s_imul dX12_stores_244 ?_
      refine s_iload2 2 rfl dX12_stores_245 ?_
      refine s_iadd dX12_stores_246 ?_
      refine s_aload0 0 rfl dX12_stores_247 ?_
      refine s_gr (gR_RX12_89 0) dX12_stores_248 ?_
      refine s_iload2 2 rfl dX12_stores_251 ?_
      refine s_let (fun h28 => ?_)
      refine s_ial aT_70 q26 dX12_stores_252 ?_
      refine s_ias aT_81 q27 dX12_stores_253 ?_
      refine s_aload0 0 rfl dX12_stores_254 ?_
      refine s_gr (gR_RX12_125 0) dX12_stores_255 ?_
      refine s_bip 17 kb_17 dX12_stores_258 ?_
      refine s_iload1 1 rfl dX12_stores_260 ?_
      refine s_imul dX12_stores_261 ?_
      refine s_iload2 2 rfl dX12_stores_262 ?_
      refine s_iadd dX12_stores_263 ?_
      refine s_aload0 0 rfl dX12_stores_264 ?_
      refine s_gr (gR_RX12_92 0) dX12_stores_265 ?_
      refine s_iload2 2 rfl dX12_stores_268 ?_
      refine s_let (fun h29 => ?_)
      refine s_ial aT_71 q26 dX12_stores_269 ?_
      refine s_ias aT_82 q27 dX12_stores_270 ?_
      refine s_iincw 1 (by decide) 2 [(2, .inl (v2 + 1)), (0, .inr (.inr (12, 0))), (1, .inl v1)] rfl rfl rfl dX12_stores_271 ?_
      refine s_goto (tgt := 212) dX12_stores_274 (by decide) ?_
      exact s_loc [1, 2, 0] rfl (ih v1 (v2 + 1) (uI h29 82 0 ((17 * v1) + v2).toNatClampNeg (h29.1 71 0 v2.toNatClampNeg)))
set_option maxRecDepth 20000 in
theorem sf_X12_stores (G : mG) (X : mX) (x1 : Int32)  (h : mH) : Sim G X cX12_stores 3 RX12 none (mRoom 0 0) eV (f_X12_stores x1 h) 0 [(0, .inr (.inr (12, 0))), (1, .inl x1)] [] h := by
  unfold f_X12_stores
  refine s_aload0 0 rfl dX12_stores_0 ?_
  refine s_gr (gR_RX12_95 0) dX12_stores_1 ?_
  refine s_iload1 1 rfl dX12_stores_4 ?_
  refine s_aload0 0 rfl dX12_stores_5 ?_
  refine s_gi gI_RX12_198 dX12_stores_6 ?_
  refine s_chk (fun q1 => ?_)
  refine s_ias aT_72 q1 dX12_stores_9 ?_
  refine s_aload0 0 rfl dX12_stores_10 ?_
  refine s_gr (gR_RX12_116 0) dX12_stores_11 ?_
  refine s_iload1 1 rfl dX12_stores_14 ?_
  refine s_aload0 0 rfl dX12_stores_15 ?_
  refine s_let (fun h2 => ?_)
  refine s_gi gI_RX12_201 dX12_stores_16 ?_
  refine s_ias aT_79 q1 dX12_stores_19 ?_
  refine s_aload0 0 rfl dX12_stores_20 ?_
  refine s_gr (gR_RX12_128 0) dX12_stores_21 ?_
  refine s_iload1 1 rfl dX12_stores_24 ?_
  refine s_aload0 0 rfl dX12_stores_25 ?_
  refine s_let (fun h3 => ?_)
  refine s_gi gI_RX12_204 dX12_stores_26 ?_
  refine s_ias aT_83 q1 dX12_stores_29 ?_
  refine s_aload0 0 rfl dX12_stores_30 ?_
  refine s_gr (gR_RX12_131 0) dX12_stores_31 ?_
  refine s_iload1 1 rfl dX12_stores_34 ?_
  refine s_aload0 0 rfl dX12_stores_35 ?_
  refine s_let (fun h4 => ?_)
  refine s_gi gI_RX12_207 dX12_stores_36 ?_
  refine s_ias aT_84 q1 dX12_stores_39 ?_
  refine s_aload0 0 rfl dX12_stores_40 ?_
  refine s_gr (gR_RX12_134 0) dX12_stores_41 ?_
  refine s_iload1 1 rfl dX12_stores_44 ?_
  refine s_aload0 0 rfl dX12_stores_45 ?_
  refine s_let (fun h5 => ?_)
  refine s_gi gI_RX12_210 dX12_stores_46 ?_
  refine s_ias aT_85 q1 dX12_stores_49 ?_
  refine s_aload0 0 rfl dX12_stores_50 ?_
  refine s_gr (gR_RX12_137 0) dX12_stores_51 ?_
  refine s_iload1 1 rfl dX12_stores_54 ?_
  refine s_aload0 0 rfl dX12_stores_55 ?_
  refine s_let (fun h6 => ?_)
  refine s_gi gI_RX12_213 dX12_stores_56 ?_
  refine s_ias aT_86 q1 dX12_stores_59 ?_
  refine s_aload0 0 rfl dX12_stores_60 ?_
  refine s_gr (gR_RX12_140 0) dX12_stores_61 ?_
  refine s_iload1 1 rfl dX12_stores_64 ?_
  refine s_aload0 0 rfl dX12_stores_65 ?_
  refine s_let (fun h7 => ?_)
  refine s_gi gI_RX12_216 dX12_stores_66 ?_
  refine s_ias aT_87 q1 dX12_stores_69 ?_
  refine s_aload0 0 rfl dX12_stores_70 ?_
  refine s_gr (gR_RX12_143 0) dX12_stores_71 ?_
  refine s_iload1 1 rfl dX12_stores_74 ?_
  refine s_aload0 0 rfl dX12_stores_75 ?_
  refine s_let (fun h8 => ?_)
  refine s_gi gI_RX12_219 dX12_stores_76 ?_
  refine s_ias aT_88 q1 dX12_stores_79 ?_
  refine s_k0 dX12_stores_80 ?_
  refine s_istore2 [(2, .inl 0), (0, .inr (.inr (12, 0))), (1, .inl x1)] rfl rfl dX12_stores_81 ?_
  refine s_loc [1, 2, 0] rfl ?_
  refine sf_X12_stores_82 G X  _ (fun u16 u17 h18 => ?_) mFu x1 0 (uI h8 88 0 x1.toNatClampNeg (h8.1 12 0 55))
  · skip
    refine s_k0 dX12_stores_179 ?_
    refine s_istore2 [(2, .inl 0), (0, .inr (.inr (12, 0))), (1, .inl u16)] rfl rfl dX12_stores_180 ?_
    refine s_loc [1, 2, 0] rfl ?_
    refine sf_X12_stores_181 G X  _ (fun u22 u23 h24 => ?_) mFu u16 0 h18
    · skip
      refine s_k0 dX12_stores_210 ?_
      refine s_istore2 [(2, .inl 0), (0, .inr (.inr (12, 0))), (1, .inl u22)] rfl rfl dX12_stores_211 ?_
      refine s_loc [1, 2, 0] rfl ?_
      refine sf_X12_stores_212 G X  _ (fun u30 u31 h32 => ?_) mFu u22 0 h24
      · skip
        exact s_return rfl rfl dX12_stores_277
set_option maxRecDepth 20000 in
theorem cf_X12_stores (G : mG) (l : Launch) (x1 : Int32)  (h : mH) (b : mH) (hb : f_X12_stores x1 h = some b) (hl : ∀ v ∈ ([.inr (.inr (12, 0)), .inl x1] : List mV), mLi v) : mMet G l yX12_stores cX12_stores 3 none (mRoom 0 0) [.inr (.inr (12, 0)), .inl x1] h (eV b) :=
  mMet.of (y := yX12_stores) (as := [.inr (.inr (12, 0)), .inl x1]) (by decide +kernel) (Nat.le_of_ble_eq_true rfl) (fun X => sf_X12_stores G X x1  h) hl b hb
-- DriverBookModel.brings(I)V
def f_X12_brings_72 (k : Int32 → Int32 → mH → Option (mH))  : Nat → Int32 → Int32 → mH → Option (mH)
  | 0, _, _, _ => none
  | n + 1, v1, v2, h =>
    if v2 < 24 then
      if mIn ((24 * v1) + v2) 192 = true then
      if mIn v2 24 = true then
      mLet (uI h 63 0 v2.toNatClampNeg (h.1 73 0 ((24 * v1) + v2).toNatClampNeg)) fun h11 =>
      mLet (uI h11 64 0 v2.toNatClampNeg (h11.1 74 0 ((24 * v1) + v2).toNatClampNeg)) fun h12 =>
      mLet (uI h12 65 0 v2.toNatClampNeg (h12.1 75 0 ((24 * v1) + v2).toNatClampNeg)) fun h13 =>
      mLet (uI h13 66 0 v2.toNatClampNeg (h13.1 76 0 ((24 * v1) + v2).toNatClampNeg)) fun h14 =>
      f_X12_brings_72 k  n v1 (v2 + 1) (uI h14 67 0 v2.toNatClampNeg (h14.1 77 0 ((24 * v1) + v2).toNatClampNeg))
      else none
      else none
    else
      k v1 v2 h
def f_X12_brings_171 (k : Int32 → Int32 → mH → Option (mH))  : Nat → Int32 → Int32 → mH → Option (mH)
  | 0, _, _, _ => none
  | n + 1, v1, v2, h =>
    if v2 < 8 then
      if mIn ((8 * v1) + v2) 64 = true then
      if mIn v2 8 = true then
      f_X12_brings_171 k  n v1 (v2 + 1) (uI h 68 0 v2.toNatClampNeg (h.1 78 0 ((8 * v1) + v2).toNatClampNeg))
      else none
      else none
    else
      k v1 v2 h
def f_X12_brings_202 (k : Int32 → Int32 → mH → Option (mH))  : Nat → Int32 → Int32 → mH → Option (mH)
  | 0, _, _, _ => none
  | n + 1, v1, v2, h =>
    if v2 < (h.1 12 0 30) then
      if mIn ((17 * v1) + v2) 136 = true then
      if mIn v2 17 = true then
      mLet (uI h 69 0 v2.toNatClampNeg (h.1 80 0 ((17 * v1) + v2).toNatClampNeg)) fun h27 =>
      mLet (uI h27 70 0 v2.toNatClampNeg (h27.1 81 0 ((17 * v1) + v2).toNatClampNeg)) fun h28 =>
      f_X12_brings_202 k  n v1 (v2 + 1) (uI h28 71 0 v2.toNatClampNeg (h28.1 82 0 ((17 * v1) + v2).toNatClampNeg))
      else none
      else none
    else
      k v1 v2 h
def f_X12_brings (x1 : Int32) (h : mH) : Option (mH) :=
  if mIn x1 8 = true then
  mLet (uI h 12 0 23 (h.1 72 0 x1.toNatClampNeg)) fun h2 =>
  mLet (uI h2 12 0 30 (h2.1 79 0 x1.toNatClampNeg)) fun h3 =>
  mLet (uI h3 12 0 34 (h3.1 83 0 x1.toNatClampNeg)) fun h4 =>
  mLet (uI h4 12 0 35 (h4.1 84 0 x1.toNatClampNeg)) fun h5 =>
  mLet (uI h5 12 0 36 (h5.1 85 0 x1.toNatClampNeg)) fun h6 =>
  mLet (uI h6 12 0 37 (h6.1 86 0 x1.toNatClampNeg)) fun h7 =>
  f_X12_brings_72 (fun u15 u16 h17 =>
    f_X12_brings_171 (fun u21 u22 h23 =>
      f_X12_brings_202 (fun u29 u30 h31 =>
        some h31)  mFu u21 0 h23)  mFu u15 0 h17)  mFu x1 0 (uI h7 12 0 38 (h7.1 87 0 x1.toNatClampNeg))
  else none
set_option maxRecDepth 20000 in
theorem sf_X12_brings_72 (G : mG) (X : mX)   (k : Int32 → Int32 → mH → Option (mH)) (hk : ∀ (v1 : Int32) (v2 : Int32) (h : mH), Sim G X cX12_brings 3 RX12 none (mRoom 0 0) eV (k v1 v2 h) 169 [(0, .inr (.inr (12, 0))), (1, .inl v1), (2, .inl v2)] [] h) (n : Nat) : ∀ (v1 : Int32) (v2 : Int32) (h : mH), Sim G X cX12_brings 3 RX12 none (mRoom 0 0) eV (f_X12_brings_72 k  n v1 v2 h) 72 [(0, .inr (.inr (12, 0))), (1, .inl v1), (2, .inl v2)] [] h := by
  induction n with
  | zero =>
    intro v1 v2 h
    exact s_none
  | succ n ih =>
    intro v1 v2 h
    unfold f_X12_brings_72
    refine s_iload2 2 rfl dX12_brings_72 ?_
    refine s_bip 24 kb_24 dX12_brings_73 ?_
    refine s_ic_ge (tgt := 169) dX12_brings_75 (by decide) (fun q8 => ?_) (fun q8 => ?_)
    · skip
      exact s_loc [0, 1, 2] rfl (hk v1 v2 h)
    · skip
      refine s_aload0 0 rfl dX12_brings_78 ?_
      refine s_gr (gR_RX12_68 0) dX12_brings_79 ?_
      refine s_iload2 2 rfl dX12_brings_82 ?_
      refine s_aload0 0 rfl dX12_brings_83 ?_
      refine s_gr (gR_RX12_98 0) dX12_brings_84 ?_
      refine s_bip 24 kb_24 dX12_brings_87 ?_
      refine s_iload1 1 rfl dX12_brings_89 ?_
      refine s_imul dX12_brings_90 ?_
      refine s_iload2 2 rfl dX12_brings_91 ?_
      refine s_iadd dX12_brings_92 ?_
      refine s_chk (fun q9 => ?_)
      refine s_ial aT_73 q9 dX12_brings_93 ?_
      refine s_chk (fun q10 => ?_)
      refine s_ias aT_63 q10 dX12_brings_94 ?_
      refine s_aload0 0 rfl dX12_brings_95 ?_
      refine s_gr (gR_RX12_71 0) dX12_brings_96 ?_
      refine s_iload2 2 rfl dX12_brings_99 ?_
      refine s_aload0 0 rfl dX12_brings_100 ?_
      refine s_gr (gR_RX12_101 0) dX12_brings_101 ?_
      refine s_bip 24 kb_24 dX12_brings_104 ?_
      refine s_iload1 1 rfl dX12_brings_106 ?_
      refine s_imul dX12_brings_107 ?_
      refine s_iload2 2 rfl dX12_brings_108 ?_
      refine s_iadd dX12_brings_109 ?_
      refine s_let (fun h11 => ?_)
      refine s_ial aT_74 q9 dX12_brings_110 ?_
      refine s_ias aT_64 q10 dX12_brings_111 ?_
      refine s_aload0 0 rfl dX12_brings_112 ?_
      refine s_gr (gR_RX12_74 0) dX12_brings_113 ?_
      refine s_iload2 2 rfl dX12_brings_116 ?_
      refine s_aload0 0 rfl dX12_brings_117 ?_
      refine s_gr (gR_RX12_104 0) dX12_brings_118 ?_
      refine s_bip 24 kb_24 dX12_brings_121 ?_
      refine s_iload1 1 rfl dX12_brings_123 ?_
      refine s_imul dX12_brings_124 ?_
      refine s_iload2 2 rfl dX12_brings_125 ?_
      refine s_iadd dX12_brings_126 ?_
      refine s_let (fun h12 => ?_)
      refine s_ial aT_75 q9 dX12_brings_127 ?_
      refine s_ias aT_65 q10 dX12_brings_128 ?_
      refine s_aload0 0 rfl dX12_brings_129 ?_
      refine s_gr (gR_RX12_77 0) dX12_brings_130 ?_
      refine s_iload2 2 rfl dX12_brings_133 ?_
      refine s_aload0 0 rfl dX12_brings_134 ?_
      refine s_gr (gR_RX12_107 0) dX12_brings_135 ?_
      refine s_bip 24 kb_24 dX12_brings_138 ?_
      refine s_iload1 1 rfl dX12_brings_140 ?_
      refine s_imul dX12_brings_141 ?_
      refine s_iload2 2 rfl dX12_brings_142 ?_
      refine s_iadd dX12_brings_143 ?_
      refine s_let (fun h13 => ?_)
      refine s_ial aT_76 q9 dX12_brings_144 ?_
      refine s_ias aT_66 q10 dX12_brings_145 ?_
      refine s_aload0 0 rfl dX12_brings_146 ?_
      refine s_gr (gR_RX12_80 0) dX12_brings_147 ?_
      refine s_iload2 2 rfl dX12_brings_150 ?_
      refine s_aload0 0 rfl dX12_brings_151 ?_
      refine s_gr (gR_RX12_110 0) dX12_brings_152 ?_
      refine s_bip 24 kb_24 dX12_brings_155 ?_
      refine s_iload1 1 rfl dX12_brings_157 ?_
      refine s_imul dX12_brings_158 ?_
      refine s_iload2 2 rfl dX12_brings_159 ?_
      refine s_iadd dX12_brings_160 ?_
      refine s_let (fun h14 => ?_)
      refine s_ial aT_77 q9 dX12_brings_161 ?_
      refine s_ias aT_67 q10 dX12_brings_162 ?_
      refine s_iincw 1 (by decide) 2 [(2, .inl (v2 + 1)), (0, .inr (.inr (12, 0))), (1, .inl v1)] rfl rfl rfl dX12_brings_163 ?_
      refine s_goto (tgt := 72) dX12_brings_166 (by decide) ?_
      exact s_loc [1, 2, 0] rfl (ih v1 (v2 + 1) (uI h14 67 0 v2.toNatClampNeg (h14.1 77 0 ((24 * v1) + v2).toNatClampNeg)))
set_option maxRecDepth 20000 in
theorem sf_X12_brings_171 (G : mG) (X : mX)   (k : Int32 → Int32 → mH → Option (mH)) (hk : ∀ (v1 : Int32) (v2 : Int32) (h : mH), Sim G X cX12_brings 3 RX12 none (mRoom 0 0) eV (k v1 v2 h) 200 [(0, .inr (.inr (12, 0))), (1, .inl v1), (2, .inl v2)] [] h) (n : Nat) : ∀ (v1 : Int32) (v2 : Int32) (h : mH), Sim G X cX12_brings 3 RX12 none (mRoom 0 0) eV (f_X12_brings_171 k  n v1 v2 h) 171 [(0, .inr (.inr (12, 0))), (1, .inl v1), (2, .inl v2)] [] h := by
  induction n with
  | zero =>
    intro v1 v2 h
    exact s_none
  | succ n ih =>
    intro v1 v2 h
    unfold f_X12_brings_171
    refine s_iload2 2 rfl dX12_brings_171 ?_
    refine s_bip 8 kb_8 dX12_brings_172 ?_
    refine s_ic_ge (tgt := 200) dX12_brings_174 (by decide) (fun q18 => ?_) (fun q18 => ?_)
    · skip
      exact s_loc [0, 1, 2] rfl (hk v1 v2 h)
    · skip
      refine s_aload0 0 rfl dX12_brings_177 ?_
      refine s_gr (gR_RX12_83 0) dX12_brings_178 ?_
      refine s_iload2 2 rfl dX12_brings_181 ?_
      refine s_aload0 0 rfl dX12_brings_182 ?_
      refine s_gr (gR_RX12_113 0) dX12_brings_183 ?_
      refine s_bip 8 kb_8 dX12_brings_186 ?_
      refine s_iload1 1 rfl dX12_brings_188 ?_
      refine s_imul dX12_brings_189 ?_
      refine s_iload2 2 rfl dX12_brings_190 ?_
      refine s_iadd dX12_brings_191 ?_
      refine s_chk (fun q19 => ?_)
      refine s_ial aT_78 q19 dX12_brings_192 ?_
      refine s_chk (fun q20 => ?_)
      refine s_ias aT_68 q20 dX12_brings_193 ?_
      refine s_iincw 1 (by decide) 2 [(2, .inl (v2 + 1)), (0, .inr (.inr (12, 0))), (1, .inl v1)] rfl rfl rfl dX12_brings_194 ?_
      refine s_goto (tgt := 171) dX12_brings_197 (by decide) ?_
      exact s_loc [1, 2, 0] rfl (ih v1 (v2 + 1) (uI h 68 0 v2.toNatClampNeg (h.1 78 0 ((8 * v1) + v2).toNatClampNeg)))
set_option maxRecDepth 20000 in
theorem sf_X12_brings_202 (G : mG) (X : mX)   (k : Int32 → Int32 → mH → Option (mH)) (hk : ∀ (v1 : Int32) (v2 : Int32) (h : mH), Sim G X cX12_brings 3 RX12 none (mRoom 0 0) eV (k v1 v2 h) 267 [(0, .inr (.inr (12, 0))), (1, .inl v1), (2, .inl v2)] [] h) (n : Nat) : ∀ (v1 : Int32) (v2 : Int32) (h : mH), Sim G X cX12_brings 3 RX12 none (mRoom 0 0) eV (f_X12_brings_202 k  n v1 v2 h) 202 [(0, .inr (.inr (12, 0))), (1, .inl v1), (2, .inl v2)] [] h := by
  induction n with
  | zero =>
    intro v1 v2 h
    exact s_none
  | succ n ih =>
    intro v1 v2 h
    unfold f_X12_brings_202
    refine s_iload2 2 rfl dX12_brings_202 ?_
    refine s_aload0 0 rfl dX12_brings_203 ?_
    refine s_gi gI_RX12_201 dX12_brings_204 ?_
    refine s_ic_ge (tgt := 267) dX12_brings_207 (by decide) (fun q24 => ?_) (fun q24 => ?_)
    · skip
      exact s_loc [0, 1, 2] rfl (hk v1 v2 h)
    · skip
      refine s_aload0 0 rfl dX12_brings_210 ?_
      refine s_gr (gR_RX12_86 0) dX12_brings_211 ?_
      refine s_iload2 2 rfl dX12_brings_214 ?_
      refine s_aload0 0 rfl dX12_brings_215 ?_
      refine s_gr (gR_RX12_119 0) dX12_brings_216 ?_
      refine s_bip 17 kb_17 dX12_brings_219 ?_
      refine s_iload1 1 rfl dX12_brings_221 ?_
      refine s_imul dX12_brings_222 ?_
      refine s_iload2 2 rfl dX12_brings_223 ?_
      refine s_iadd dX12_brings_224 ?_
      refine s_chk (fun q25 => ?_)
      refine s_ial aT_80 q25 dX12_brings_225 ?_
      refine s_chk (fun q26 => ?_)
      refine s_ias aT_69 q26 dX12_brings_226 ?_
      refine s_aload0 0 rfl dX12_brings_227 ?_
      refine s_gr (gR_RX12_89 0) dX12_brings_228 ?_
      refine s_iload2 2 rfl dX12_brings_231 ?_
      refine s_aload0 0 rfl dX12_brings_232 ?_
      refine s_gr (gR_RX12_122 0) dX12_brings_233 ?_
      refine s_bip 17 kb_17 dX12_brings_236 ?_
      refine s_iload1 1 rfl dX12_brings_238 ?_
      refine s_imul dX12_brings_239 ?_
      refine s_iload2 2 rfl dX12_brings_240 ?_
      refine s_iadd dX12_brings_241 ?_
      refine s_let (fun h27 => ?_)
      refine s_ial aT_81 q25 dX12_brings_242 ?_
      refine s_ias aT_70 q26 dX12_brings_243 ?_
      refine s_aload0 0 rfl dX12_brings_244 ?_
      refine s_gr (gR_RX12_92 0) dX12_brings_245 ?_
      refine s_iload2 2 rfl dX12_brings_248 ?_
      refine s_aload0 0 rfl dX12_brings_249 ?_
      refine s_gr (gR_RX12_125 0) dX12_brings_250 ?_
      refine s_bip 17 kb_17 dX12_brings_253 ?_
      refine s_iload1 1 rfl dX12_brings_255 ?_
      refine s_imul dX12_brings_256 ?_
      refine s_iload2 2 rfl dX12_brings_257 ?_
      refine s_iadd dX12_brings_258 ?_
      refine s_let (fun h28 => ?_)
      refine s_ial aT_82 q25 dX12_brings_259 ?_
      refine s_ias aT_71 q26 dX12_brings_260 ?_
      refine s_iincw 1 (by decide) 2 [(2, .inl (v2 + 1)), (0, .inr (.inr (12, 0))), (1, .inl v1)] rfl rfl rfl dX12_brings_261 ?_
      refine s_goto (tgt := 202) dX12_brings_264 (by decide) ?_
      exact s_loc [1, 2, 0] rfl (ih v1 (v2 + 1) (uI h28 71 0 v2.toNatClampNeg (h28.1 82 0 ((17 * v1) + v2).toNatClampNeg)))
set_option maxRecDepth 20000 in
theorem sf_X12_brings (G : mG) (X : mX) (x1 : Int32)  (h : mH) : Sim G X cX12_brings 3 RX12 none (mRoom 0 0) eV (f_X12_brings x1 h) 0 [(0, .inr (.inr (12, 0))), (1, .inl x1)] [] h := by
  unfold f_X12_brings
  refine s_aload0 0 rfl dX12_brings_0 ?_
  refine s_aload0 0 rfl dX12_brings_1 ?_
  refine s_gr (gR_RX12_95 0) dX12_brings_2 ?_
  refine s_iload1 1 rfl dX12_brings_5 ?_
  refine s_chk (fun q1 => ?_)
  refine s_ial aT_72 q1 dX12_brings_6 ?_
  refine s_pi pI_RX12_198 dX12_brings_7 ?_
  refine s_aload0 0 rfl dX12_brings_10 ?_
  refine s_aload0 0 rfl dX12_brings_11 ?_
  refine s_gr (gR_RX12_116 0) dX12_brings_12 ?_
  refine s_iload1 1 rfl dX12_brings_15 ?_
  refine s_let (fun h2 => ?_)
  refine s_ial aT_79 q1 dX12_brings_16 ?_
  refine s_pi pI_RX12_201 dX12_brings_17 ?_
  refine s_aload0 0 rfl dX12_brings_20 ?_
  refine s_aload0 0 rfl dX12_brings_21 ?_
  refine s_gr (gR_RX12_128 0) dX12_brings_22 ?_
  refine s_iload1 1 rfl dX12_brings_25 ?_
  refine s_let (fun h3 => ?_)
  refine s_ial aT_83 q1 dX12_brings_26 ?_
  refine s_pi pI_RX12_204 dX12_brings_27 ?_
  refine s_aload0 0 rfl dX12_brings_30 ?_
  refine s_aload0 0 rfl dX12_brings_31 ?_
  refine s_gr (gR_RX12_131 0) dX12_brings_32 ?_
  refine s_iload1 1 rfl dX12_brings_35 ?_
  refine s_let (fun h4 => ?_)
  refine s_ial aT_84 q1 dX12_brings_36 ?_
  refine s_pi pI_RX12_207 dX12_brings_37 ?_
  refine s_aload0 0 rfl dX12_brings_40 ?_
  refine s_aload0 0 rfl dX12_brings_41 ?_
  refine s_gr (gR_RX12_134 0) dX12_brings_42 ?_
  refine s_iload1 1 rfl dX12_brings_45 ?_
  refine s_let (fun h5 => ?_)
  refine s_ial aT_85 q1 dX12_brings_46 ?_
  refine s_pi pI_RX12_210 dX12_brings_47 ?_
  refine s_aload0 0 rfl dX12_brings_50 ?_
  refine s_aload0 0 rfl dX12_brings_51 ?_
  refine s_gr (gR_RX12_137 0) dX12_brings_52 ?_
  refine s_iload1 1 rfl dX12_brings_55 ?_
  refine s_let (fun h6 => ?_)
  refine s_ial aT_86 q1 dX12_brings_56 ?_
  refine s_pi pI_RX12_213 dX12_brings_57 ?_
  refine s_aload0 0 rfl dX12_brings_60 ?_
  refine s_aload0 0 rfl dX12_brings_61 ?_
  refine s_gr (gR_RX12_140 0) dX12_brings_62 ?_
  refine s_iload1 1 rfl dX12_brings_65 ?_
  refine s_let (fun h7 => ?_)
  refine s_ial aT_87 q1 dX12_brings_66 ?_
  refine s_pi pI_RX12_216 dX12_brings_67 ?_
  refine s_k0 dX12_brings_70 ?_
  refine s_istore2 [(2, .inl 0), (0, .inr (.inr (12, 0))), (1, .inl x1)] rfl rfl dX12_brings_71 ?_
  refine s_loc [1, 2, 0] rfl ?_
  refine sf_X12_brings_72 G X  _ (fun u15 u16 h17 => ?_) mFu x1 0 (uI h7 12 0 38 (h7.1 87 0 x1.toNatClampNeg))
  · skip
    refine s_k0 dX12_brings_169 ?_
    refine s_istore2 [(2, .inl 0), (0, .inr (.inr (12, 0))), (1, .inl u15)] rfl rfl dX12_brings_170 ?_
    refine s_loc [1, 2, 0] rfl ?_
    refine sf_X12_brings_171 G X  _ (fun u21 u22 h23 => ?_) mFu u15 0 h17
    · skip
      refine s_k0 dX12_brings_200 ?_
      refine s_istore2 [(2, .inl 0), (0, .inr (.inr (12, 0))), (1, .inl u21)] rfl rfl dX12_brings_201 ?_
      refine s_loc [1, 2, 0] rfl ?_
      refine sf_X12_brings_202 G X  _ (fun u29 u30 h31 => ?_) mFu u21 0 h23
      · skip
        exact s_return rfl rfl dX12_brings_267
set_option maxRecDepth 20000 in
theorem cf_X12_brings (G : mG) (l : Launch) (x1 : Int32)  (h : mH) (b : mH) (hb : f_X12_brings x1 h = some b) (hl : ∀ v ∈ ([.inr (.inr (12, 0)), .inl x1] : List mV), mLi v) : mMet G l yX12_brings cX12_brings 3 none (mRoom 0 0) [.inr (.inr (12, 0)), .inl x1] h (eV b) :=
  mMet.of (y := yX12_brings) (as := [.inr (.inr (12, 0)), .inl x1]) (by decide +kernel) (Nat.le_of_ble_eq_true rfl) (fun X => sf_X12_brings G X x1  h) hl b hb
