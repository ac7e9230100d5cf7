-- DriverBookModel.power()I
def f_X12_power  (h : mH) : Option (Int32 × mH) :=
  (f_X12_powers  h).bind fun r1 =>
  some (r1.1 12 0 2, r1)
set_option maxRecDepth 20000 in
theorem sf_X12_power (G : mG) (X : mX)   (h : mH) : Sim G X cX12_power 1 RX12 (some .int) (mRoom 1 21) eI (f_X12_power  h) 0 [(0, .inr (.inr (12, 0)))] [] h := by
  unfold f_X12_power
  refine s_aload0 0 rfl dX12_power_0 ?_
  refine s_viV [] (fun l b hb hl => cf_X12_powers G l  h b hb hl) me_X12_powers vi_RX12_222 rfl rfl rfl rfl rfl dX12_power_1 (fun r1 => ?_)
  refine s_aload0 0 rfl dX12_power_4 ?_
  refine s_gi gI_RX12_181 dX12_power_5 ?_
  exact s_ireturn rfl rfl dX12_power_8
set_option maxRecDepth 20000 in
theorem cf_X12_power (G : mG) (l : Launch)   (h : mH) (b : Int32 × mH) (hb : f_X12_power  h = some b) (hl : ∀ v ∈ ([.inr (.inr (12, 0))] : List mV), mLi v) : mMet G l yX12_power cX12_power 1 (some .int) (mRoom 1 21) [.inr (.inr (12, 0))] h (eI b) :=
  mMet.of (y := yX12_power) (as := [.inr (.inr (12, 0))]) (by decide +kernel) (Nat.le_of_ble_eq_true rfl) (fun X => sf_X12_power G X   h) hl b hb
-- DriverBookModel.comes(III)V
def f_X12_comes (x1 : Int32) (x2 : Int32) (x3 : Int32) (h : mH) : Option (mH) :=
  if mIn (h.1 12 0 30) 17 = true then
  mLet (uI h 69 0 (h.1 12 0 30).toNatClampNeg x1) fun h2 =>
  if mIn (h2.1 12 0 30) 17 = true then
  mLet (uI h2 70 0 (h2.1 12 0 30).toNatClampNeg x2) fun h4 =>
  if mIn (h4.1 12 0 30) 17 = true then
  mLet (uI h4 71 0 (h4.1 12 0 30).toNatClampNeg x3) fun h6 =>
  some (uI h6 12 0 30 ((h6.1 12 0 30) + 1))
  else none
  else none
  else none
set_option maxRecDepth 20000 in
theorem sf_X12_comes (G : mG) (X : mX) (x1 : Int32) (x2 : Int32) (x3 : Int32)  (h : mH) : Sim G X cX12_comes 4 RX12 none (mRoom 0 0) eV (f_X12_comes x1 x2 x3 h) 0 [(0, .inr (.inr (12, 0))), (1, .inl x1), (2, .inl x2), (3, .inl x3)] [] h := by
  unfold f_X12_comes
  refine s_aload0 0 rfl dX12_comes_0 ?_
  refine s_gr (gR_RX12_86 0) dX12_comes_1 ?_
  refine s_aload0 0 rfl dX12_comes_4 ?_
  refine s_gi gI_RX12_201 dX12_comes_5 ?_
  refine s_iload1 1 rfl dX12_comes_8 ?_
  refine s_chk (fun q1 => ?_)
  refine s_ias aT_69 q1 dX12_comes_9 ?_
  refine s_aload0 0 rfl dX12_comes_10 ?_
  refine s_gr (gR_RX12_89 0) dX12_comes_11 ?_
  refine s_aload0 0 rfl dX12_comes_14 ?_
  refine s_let (fun h2 => ?_)
  refine s_gi gI_RX12_201 dX12_comes_15 ?_
  refine s_iload2 2 rfl dX12_comes_18 ?_
  refine s_chk (fun q3 => ?_)
  refine s_ias aT_70 q3 dX12_comes_19 ?_
  refine s_aload0 0 rfl dX12_comes_20 ?_
  refine s_gr (gR_RX12_92 0) dX12_comes_21 ?_
  refine s_aload0 0 rfl dX12_comes_24 ?_
  refine s_let (fun h4 => ?_)
  refine s_gi gI_RX12_201 dX12_comes_25 ?_
  refine s_iload3 3 rfl dX12_comes_28 ?_
  refine s_chk (fun q5 => ?_)
  refine s_ias aT_71 q5 dX12_comes_29 ?_
  refine s_aload0 0 rfl dX12_comes_30 ?_
  refine s_dup rfl dX12_comes_31 ?_
  refine s_let (fun h6 => ?_)
  refine s_gi gI_RX12_201 dX12_comes_32 ?_
  refine s_k1 dX12_comes_35 ?_
  refine s_iadd dX12_comes_36 ?_
  refine s_pi pI_RX12_201 dX12_comes_37 ?_
  exact s_return rfl rfl dX12_comes_40
set_option maxRecDepth 20000 in
theorem cf_X12_comes (G : mG) (l : Launch) (x1 : Int32) (x2 : Int32) (x3 : Int32)  (h : mH) (b : mH) (hb : f_X12_comes x1 x2 x3 h = some b) (hl : ∀ v ∈ ([.inr (.inr (12, 0)), .inl x1, .inl x2, .inl x3] : List mV), mLi v) : mMet G l yX12_comes cX12_comes 4 none (mRoom 0 0) [.inr (.inr (12, 0)), .inl x1, .inl x2, .inl x3] h (eV b) :=
  mMet.of (y := yX12_comes) (as := [.inr (.inr (12, 0)), .inl x1, .inl x2, .inl x3]) (by decide +kernel) (Nat.le_of_ble_eq_true rfl) (fun X => sf_X12_comes G X x1 x2 x3  h) hl b hb
-- DriverBookModel.event(III)I
def f_X12_event (x1 : Int32) (x2 : Int32) (x3 : Int32) (h : mH) : Option (Int32 × mH) :=
  (f_X12_isField x1 h).bind fun r1 =>
  if r1.1 = 0 then
    some ((-1), r1.2)
  else
    (f_X12_most x1 r1.2).bind fun r3 =>
    (f_X12_in x2 0 r3.1 r3.2).bind fun r4 =>
    if r4.1 = 0 then
      some ((-1), r4.2)
    else
      if x3 ≤ 9999 then
        if mIn x1 24 = true then
        (f_X12_in (r4.2.1 49 0 x1.toNatClampNeg) 1 3 r4.2).bind fun r8 =>
        if r8.1 = 0 then
          some ((-4), r8.2)
        else
          if x3 ≤ (r8.2.1 12 0 23) then
            some ((-6), r8.2)
          else
            if (r8.2.1 12 0 30) = 16 then
              some ((-3), r8.2)
            else
              (f_X12_comes x1 x2 x3 r8.2).bind fun r12 =>
              some (r12.1 12 0 30, r12)
        else none
      else
        some ((-1), r4.2)
set_option maxRecDepth 20000 in
theorem sf_X12_event (G : mG) (X : mX) (x1 : Int32) (x2 : Int32) (x3 : Int32)  (h : mH) : Sim G X cX12_event 4 RX12 (some .int) (mRoom 2 43) eI (f_X12_event x1 x2 x3 h) 0 [(0, .inr (.inr (12, 0))), (1, .inl x1), (2, .inl x2), (3, .inl x3)] [] h := by
  unfold f_X12_event
  refine s_aload0 0 rfl dX12_event_0 ?_
  refine s_iload1 1 rfl dX12_event_1 ?_
  refine s_viI [.inl x1] (fun l b hb hl => cf_X12_isField G l x1 h b hb hl) me_X12_isField vi_RX12_238 rfl rfl rfl rfl rfl dX12_event_2 (fun r1 => ?_)
  refine s_if_eq (tgt := 28) dX12_event_5 (by decide) (fun q2 => ?_) (fun q2 => ?_)
  · skip
    refine s_km1 dX12_event_28 ?_
    exact s_ireturn rfl rfl dX12_event_29
  · skip
    refine s_iload2 2 rfl dX12_event_8 ?_
    refine s_k0 dX12_event_9 ?_
    refine s_aload0 0 rfl dX12_event_10 ?_
    refine s_iload1 1 rfl dX12_event_11 ?_
    refine s_viI [.inl x1] (fun l b hb hl => cf_X12_most G l x1 r1.2 b hb hl) me_X12_most vi_RX12_191 rfl rfl rfl rfl rfl dX12_event_12 (fun r3 => ?_)
    refine s_siI [.inl x2, .inl 0, .inl r3.1] (fun l b hb hl => cf_X12_in G l x2 0 r3.1 r3.2 b hb hl) me_X12_in si_RX12_184 rfl rfl rfl rfl rfl dX12_event_15 (fun r4 => ?_)
    refine s_if_eq (tgt := 28) dX12_event_18 (by decide) (fun q5 => ?_) (fun q5 => ?_)
    · skip
      refine s_km1 dX12_event_28 ?_
      exact s_ireturn rfl rfl dX12_event_29
    · skip
      refine s_iload3 3 rfl dX12_event_21 ?_
      refine s_sip 9999 ks_9999 dX12_event_22 ?_
      refine s_ic_le (tgt := 30) dX12_event_25 (by decide) (fun q6 => ?_) (fun q6 => ?_)
      · skip
        refine s_aload0 0 rfl dX12_event_30 ?_
        refine s_gr (gR_RX12_23 0) dX12_event_31 ?_
        refine s_iload1 1 rfl dX12_event_34 ?_
        refine s_chk (fun q7 => ?_)
        refine s_ial aT_49 q7 dX12_event_35 ?_
        refine s_k1 dX12_event_36 ?_
        refine s_k3 dX12_event_37 ?_
        refine s_siI [.inl (r4.2.1 49 0 x1.toNatClampNeg), .inl 1, .inl 3] (fun l b hb hl => cf_X12_in G l (r4.2.1 49 0 x1.toNatClampNeg) 1 3 r4.2 b hb hl) me_X12_in si_RX12_184 rfl rfl rfl rfl rfl dX12_event_38 (fun r8 => ?_)
        refine s_if_ne (tgt := 47) dX12_event_41 (by decide) (fun q9 => ?_) (fun q9 => ?_)
        · skip
          refine s_iload3 3 rfl dX12_event_47 ?_
          refine s_aload0 0 rfl dX12_event_48 ?_
          refine s_gi gI_RX12_198 dX12_event_49 ?_
          refine s_ic_gt (tgt := 58) dX12_event_52 (by decide) (fun q10 => ?_) (fun q10 => ?_)
          · skip
            refine s_aload0 0 rfl dX12_event_58 ?_
            refine s_gi gI_RX12_201 dX12_event_59 ?_
            refine s_bip 16 kb_16 dX12_event_62 ?_
            refine s_ic_ne (tgt := 70) dX12_event_64 (by decide) (fun q11 => ?_) (fun q11 => ?_)
            · skip
              refine s_aload0 0 rfl dX12_event_70 ?_
              refine s_iload1 1 rfl dX12_event_71 ?_
              refine s_iload2 2 rfl dX12_event_72 ?_
              refine s_iload3 3 rfl dX12_event_73 ?_
              refine s_viV [.inl x1, .inl x2, .inl x3] (fun l b hb hl => cf_X12_comes G l x1 x2 x3 r8.2 b hb hl) me_X12_comes vi_RX12_289 rfl rfl rfl rfl rfl dX12_event_74 (fun r12 => ?_)
              refine s_aload0 0 rfl dX12_event_77 ?_
              refine s_gi gI_RX12_201 dX12_event_78 ?_
              exact s_ireturn rfl rfl dX12_event_81
            · skip
              refine s_bip (-3) kb_m3 dX12_event_67 ?_
              exact s_ireturn rfl rfl dX12_event_69
          · skip
            refine s_bip (-6) kb_m6 dX12_event_55 ?_
            exact s_ireturn rfl rfl dX12_event_57
        · skip
          refine s_bip (-4) kb_m4 dX12_event_44 ?_
          exact s_ireturn rfl rfl dX12_event_46
      · skip
        refine s_km1 dX12_event_28 ?_
        exact s_ireturn rfl rfl dX12_event_29
set_option maxRecDepth 20000 in
theorem cf_X12_event (G : mG) (l : Launch) (x1 : Int32) (x2 : Int32) (x3 : Int32)  (h : mH) (b : Int32 × mH) (hb : f_X12_event x1 x2 x3 h = some b) (hl : ∀ v ∈ ([.inr (.inr (12, 0)), .inl x1, .inl x2, .inl x3] : List mV), mLi v) : mMet G l yX12_event cX12_event 4 (some .int) (mRoom 2 43) [.inr (.inr (12, 0)), .inl x1, .inl x2, .inl x3] h (eI b) :=
  mMet.of (y := yX12_event) (as := [.inr (.inr (12, 0)), .inl x1, .inl x2, .inl x3]) (by decide +kernel) (Nat.le_of_ble_eq_true rfl) (fun X => sf_X12_event G X x1 x2 x3  h) hl b hb
-- DriverBookModel.flagUp()I
def f_X12_flagUp_2 (k : Int32 → mH → Option (Int32 × mH))  : Nat → Int32 → mH → Option (Int32 × mH)
  | 0, _, _ => none
  | n + 1, v1, h =>
    if v1 < (h.1 12 0 2) then
      if mIn v1 24 = true then
      if (h.1 49 0 v1.toNatClampNeg) = 2 then
        if (h.1 53 0 v1.toNatClampNeg) = (-1) then
          f_X12_flagUp_2 k  n (v1 + 1) h
        else
          if (h.1 63 0 v1.toNatClampNeg) = 0 then
            f_X12_flagUp_2 k  n (v1 + 1) h
          else
            some (v1, h)
      else
        f_X12_flagUp_2 k  n (v1 + 1) h
      else none
    else
      k v1 h
def f_X12_flagUp  (h : mH) : Option (Int32 × mH) :=
  f_X12_flagUp_2 (fun u6 h7 =>
    some ((-1), h7))  mFu 0 h
set_option maxRecDepth 20000 in
theorem sf_X12_flagUp_2 (G : mG) (X : mX)   (k : Int32 → mH → Option (Int32 × mH)) (hk : ∀ (v1 : Int32) (h : mH), Sim G X cX12_flagUp 2 RX12 (some .int) (mRoom 0 0) eI (k v1 h) 47 [(0, .inr (.inr (12, 0))), (1, .inl v1)] [] h) (n : Nat) : ∀ (v1 : Int32) (h : mH), Sim G X cX12_flagUp 2 RX12 (some .int) (mRoom 0 0) eI (f_X12_flagUp_2 k  n v1 h) 2 [(0, .inr (.inr (12, 0))), (1, .inl v1)] [] h := by
  induction n with
  | zero =>
    intro v1 h
    exact s_none
  | succ n ih =>
    intro v1 h
    unfold f_X12_flagUp_2
    refine s_iload1 1 rfl dX12_flagUp_2 ?_
    refine s_aload0 0 rfl dX12_flagUp_3 ?_
    refine s_gi gI_RX12_181 dX12_flagUp_4 ?_
    refine s_ic_ge (tgt := 47) dX12_flagUp_7 (by decide) (fun q1 => ?_) (fun q1 => ?_)
    · skip
      exact s_loc [0, 1] rfl (hk v1 h)
    · skip
      refine s_aload0 0 rfl dX12_flagUp_10 ?_
      refine s_gr (gR_RX12_23 0) dX12_flagUp_11 ?_
      refine s_iload1 1 rfl dX12_flagUp_14 ?_
      refine s_chk (fun q2 => ?_)
      refine s_ial aT_49 q2 dX12_flagUp_15 ?_
      refine s_k2 dX12_flagUp_16 ?_
      refine s_ic_ne (tgt := 41) dX12_flagUp_17 (by decide) (fun q3 => ?_) (fun q3 => ?_)
      · skip
        refine s_iincw 1 (by decide) 1 [(1, .inl (v1 + 1)), (0, .inr (.inr (12, 0)))] rfl rfl rfl dX12_flagUp_41 ?_
        refine s_goto (tgt := 2) dX12_flagUp_44 (by decide) ?_
        exact s_loc [1, 0] rfl (ih (v1 + 1) h)
      · skip
        refine s_aload0 0 rfl dX12_flagUp_20 ?_
        refine s_gr (gR_RX12_35 0) dX12_flagUp_21 ?_
        refine s_iload1 1 rfl dX12_flagUp_24 ?_
        refine s_ial aT_53 q2 dX12_flagUp_25 ?_
        refine s_km1 dX12_flagUp_26 ?_
        refine s_ic_eq (tgt := 41) dX12_flagUp_27 (by decide) (fun q4 => ?_) (fun q4 => ?_)
        · skip
          refine s_iincw 1 (by decide) 1 [(1, .inl (v1 + 1)), (0, .inr (.inr (12, 0)))] rfl rfl rfl dX12_flagUp_41 ?_
          refine s_goto (tgt := 2) dX12_flagUp_44 (by decide) ?_
          exact s_loc [1, 0] rfl (ih (v1 + 1) h)
        · skip
          refine s_aload0 0 rfl dX12_flagUp_30 ?_
          refine s_gr (gR_RX12_68 0) dX12_flagUp_31 ?_
          refine s_iload1 1 rfl dX12_flagUp_34 ?_
          refine s_ial aT_63 q2 dX12_flagUp_35 ?_
          refine s_if_eq (tgt := 41) dX12_flagUp_36 (by decide) (fun q5 => ?_) (fun q5 => ?_)
          · skip
            refine s_iincw 1 (by decide) 1 [(1, .inl (v1 + 1)), (0, .inr (.inr (12, 0)))] rfl rfl rfl dX12_flagUp_41 ?_
            refine s_goto (tgt := 2) dX12_flagUp_44 (by decide) ?_
            exact s_loc [1, 0] rfl (ih (v1 + 1) h)
          · skip
            refine s_iload1 1 rfl dX12_flagUp_39 ?_
            exact s_ireturn rfl rfl dX12_flagUp_40
set_option maxRecDepth 20000 in
theorem sf_X12_flagUp (G : mG) (X : mX)   (h : mH) : Sim G X cX12_flagUp 2 RX12 (some .int) (mRoom 0 0) eI (f_X12_flagUp  h) 0 [(0, .inr (.inr (12, 0)))] [] h := by
  unfold f_X12_flagUp
  refine s_k0 dX12_flagUp_0 ?_
  refine s_istore1 [(1, .inl 0), (0, .inr (.inr (12, 0)))] rfl rfl dX12_flagUp_1 ?_
  refine s_loc [1, 0] rfl ?_
  refine sf_X12_flagUp_2 G X  _ (fun u6 h7 => ?_) mFu 0 h
  · skip
    refine s_km1 dX12_flagUp_47 ?_
    exact s_ireturn rfl rfl dX12_flagUp_48
set_option maxRecDepth 20000 in
theorem cf_X12_flagUp (G : mG) (l : Launch)   (h : mH) (b : Int32 × mH) (hb : f_X12_flagUp  h = some b) (hl : ∀ v ∈ ([.inr (.inr (12, 0))] : List mV), mLi v) : mMet G l yX12_flagUp cX12_flagUp 2 (some .int) (mRoom 0 0) [.inr (.inr (12, 0))] h (eI b) :=
  mMet.of (y := yX12_flagUp) (as := [.inr (.inr (12, 0))]) (by decide +kernel) (Nat.le_of_ble_eq_true rfl) (fun X => sf_X12_flagUp G X   h) hl b hb
-- DriverBookModel.puts(II)V
def f_X12_puts_82 (k : Int32 → Int32 → Int32 → Int32 → mH → Option (mH))  : Nat → Int32 → Int32 → Int32 → Int32 → mH → Option (mH)
  | 0, _, _, _, _, _ => none
  | n + 1, v3, v5, v6, v7, h =>
    if v7 < (h.1 12 0 2) then
      if mIn v7 24 = true then
      if (h.1 46 0 v7.toNatClampNeg) = v3 then
        if (h.1 49 0 v7.toNatClampNeg) = 0 then
          (f_X12_mask v7 h).bind fun r11 =>
          f_X12_puts_82 k  n v3 v5 (v6 ||| r11.1) (v7 + 1) r11.2
        else
          if (h.1 49 0 v7.toNatClampNeg) = 5 then
            (f_X12_mask v7 h).bind fun r13 =>
            f_X12_puts_82 k  n v3 v5 (v6 ||| r13.1) (v7 + 1) r13.2
          else
            f_X12_puts_82 k  n v3 v5 (v6 ||| 0) (v7 + 1) h
      else
        f_X12_puts_82 k  n v3 v5 (v6 ||| 0) (v7 + 1) h
      else none
    else
      k v3 v5 v6 v7 h
def f_X12_puts (x1 : Int32) (x2 : Int32) (h : mH) : Option (mH) :=
  if mIn (x2 + 1) 600 = true then
  if mIn (x2 + 2) 600 = true then
  if (h.1 94 0 (x2 + 2).toNatClampNeg) = 1 then
    if mIn x1 2 = true then
    if mIn (x2 + 4) 600 = true then
    if mIn (x2 + 3) 600 = true then
    f_X12_puts_82 (fun u36 u37 u38 u39 h40 =>
      (f_X12_writes u36 u37 h40).bind fun r41 =>
      if mIn u36 8 = true then
      (f_X12_ticks  (uI r41 68 0 u36.toNatClampNeg (u37 &&& u38))).bind fun r43 =>
      some r43
      else none)  mFu (h.1 94 0 (x2 + 1).toNatClampNeg) ((h.1 94 0 (x2 + 4).toNatClampNeg) ||| ((h.1 95 0 x1.toNatClampNeg) &&& (h.1 94 0 (x2 + 3).toNatClampNeg))) 0 0 h
    else none
    else none
    else none
  else
    if (h.1 94 0 (x2 + 2).toNatClampNeg) = 2 then
      if mIn (h.1 94 0 (x2 + 1).toNatClampNeg) 8 = true then
      if mIn (x2 + 4) 600 = true then
      if mIn (x2 + 3) 600 = true then
      f_X12_puts_82 (fun u25 u26 u27 u28 h29 =>
        (f_X12_writes u25 u26 h29).bind fun r30 =>
        if mIn u25 8 = true then
        (f_X12_ticks  (uI r30 68 0 u25.toNatClampNeg (u26 &&& u27))).bind fun r32 =>
        some r32
        else none)  mFu (h.1 94 0 (x2 + 1).toNatClampNeg) ((h.1 94 0 (x2 + 4).toNatClampNeg) ||| ((h.1 68 0 (h.1 94 0 (x2 + 1).toNatClampNeg).toNatClampNeg) &&& (h.1 94 0 (x2 + 3).toNatClampNeg))) 0 0 h
      else none
      else none
      else none
    else
      if mIn (x2 + 4) 600 = true then
      if mIn (x2 + 3) 600 = true then
      f_X12_puts_82 (fun u14 u15 u16 u17 h18 =>
        (f_X12_writes u14 u15 h18).bind fun r19 =>
        if mIn u14 8 = true then
        (f_X12_ticks  (uI r19 68 0 u14.toNatClampNeg (u15 &&& u16))).bind fun r21 =>
        some r21
        else none)  mFu (h.1 94 0 (x2 + 1).toNatClampNeg) ((h.1 94 0 (x2 + 4).toNatClampNeg) ||| (0 &&& (h.1 94 0 (x2 + 3).toNatClampNeg))) 0 0 h
      else none
      else none
  else none
  else none
set_option maxRecDepth 20000 in
theorem sf_X12_puts_82 (G : mG) (X : mX)   (k : Int32 → Int32 → Int32 → Int32 → mH → Option (mH)) (hk : ∀ (v3 : Int32) (v5 : Int32) (v6 : Int32) (v7 : Int32) (h : mH), Sim G X cX12_puts 8 RX12 none (mRoom 5 113) eV (k v3 v5 v6 v7 h) 144 [(0, .inr (.inr (12, 0))), (3, .inl v3), (5, .inl v5), (6, .inl v6), (7, .inl v7)] [] h) (n : Nat) : ∀ (v3 : Int32) (v5 : Int32) (v6 : Int32) (v7 : Int32) (h : mH), Sim G X cX12_puts 8 RX12 none (mRoom 5 113) eV (f_X12_puts_82 k  n v3 v5 v6 v7 h) 82 [(0, .inr (.inr (12, 0))), (3, .inl v3), (5, .inl v5), (6, .inl v6), (7, .inl v7)] [] h := by
  induction n with
  | zero =>
    intro v3 v5 v6 v7 h
    exact s_none
  | succ n ih =>
    intro v3 v5 v6 v7 h
    unfold f_X12_puts_82
    refine s_iload 4 rfl dX12_puts_82 ?_
    refine s_aload0 0 rfl dX12_puts_84 ?_
    refine s_gi gI_RX12_181 dX12_puts_85 ?_
    refine s_ic_ge (tgt := 144) dX12_puts_88 (by decide) (fun q7 => ?_) (fun q7 => ?_)
    · skip
      exact s_loc [0, 1, 2, 3, 4] rfl (hk v3 v5 v6 v7 h)
    · skip
      refine s_iload 3 rfl dX12_puts_91 ?_
      refine s_aload0 0 rfl dX12_puts_93 ?_
      refine s_gr (gR_RX12_13 0) dX12_puts_94 ?_
      refine s_iload 4 rfl dX12_puts_97 ?_
      refine s_chk (fun q8 => ?_)
      refine s_ial aT_46 q8 dX12_puts_99 ?_
      refine s_iload3 1 rfl dX12_puts_100 ?_
      refine s_ic_ne (tgt := 134) dX12_puts_101 (by decide) (fun q9 => ?_) (fun q9 => ?_)
      · skip
        refine s_k0 dX12_puts_134 ?_
        refine s_ior dX12_puts_135 ?_
        refine s_istorew [(6, .inl (v6 ||| 0)), (0, .inr (.inr (12, 0))), (3, .inl v3), (5, .inl v5), (7, .inl v7)] rfl rfl dX12_puts_136 ?_
        refine s_iincw 1 (by decide) 4 [(7, .inl (v7 + 1)), (6, .inl (v6 ||| 0)), (0, .inr (.inr (12, 0))), (3, .inl v3), (5, .inl v5)] rfl rfl rfl dX12_puts_138 ?_
        refine s_goto (tgt := 82) dX12_puts_141 (by decide) ?_
        exact s_loc [2, 3, 4, 1, 0] rfl (ih v3 v5 (v6 ||| 0) (v7 + 1) h)
      · skip
        refine s_aload0 0 rfl dX12_puts_104 ?_
        refine s_gr (gR_RX12_23 0) dX12_puts_105 ?_
        refine s_iload 4 rfl dX12_puts_108 ?_
        refine s_ial aT_49 q8 dX12_puts_110 ?_
        refine s_if_eq (tgt := 125) dX12_puts_111 (by decide) (fun q10 => ?_) (fun q10 => ?_)
        · skip
          refine s_aload0 0 rfl dX12_puts_125 ?_
          refine s_iload 4 rfl dX12_puts_126 ?_
          refine s_viI [.inl v7] (fun l b hb hl => cf_X12_mask G l v7 h b hb hl) me_X12_mask vi_RX12_235 rfl rfl rfl rfl rfl dX12_puts_128 (fun r11 => ?_)
          refine s_goto (tgt := 135) dX12_puts_131 (by decide) ?_
          refine s_ior dX12_puts_135 ?_
          refine s_istorew [(6, .inl (v6 ||| r11.1)), (0, .inr (.inr (12, 0))), (3, .inl v3), (5, .inl v5), (7, .inl v7)] rfl rfl dX12_puts_136 ?_
          refine s_iincw 1 (by decide) 4 [(7, .inl (v7 + 1)), (6, .inl (v6 ||| r11.1)), (0, .inr (.inr (12, 0))), (3, .inl v3), (5, .inl v5)] rfl rfl rfl dX12_puts_138 ?_
          refine s_goto (tgt := 82) dX12_puts_141 (by decide) ?_
          exact s_loc [2, 3, 4, 1, 0] rfl (ih v3 v5 (v6 ||| r11.1) (v7 + 1) r11.2)
        · skip
          refine s_aload0 0 rfl dX12_puts_114 ?_
          refine s_gr (gR_RX12_23 0) dX12_puts_115 ?_
          refine s_iload 4 rfl dX12_puts_118 ?_
          refine s_ial aT_49 q8 dX12_puts_120 ?_
          refine s_k5 dX12_puts_121 ?_
          refine s_ic_ne (tgt := 134) dX12_puts_122 (by decide) (fun q12 => ?_) (fun q12 => ?_)
          · skip
            refine s_k0 dX12_puts_134 ?_
            refine s_ior dX12_puts_135 ?_
            refine s_istorew [(6, .inl (v6 ||| 0)), (0, .inr (.inr (12, 0))), (3, .inl v3), (5, .inl v5), (7, .inl v7)] rfl rfl dX12_puts_136 ?_
            refine s_iincw 1 (by decide) 4 [(7, .inl (v7 + 1)), (6, .inl (v6 ||| 0)), (0, .inr (.inr (12, 0))), (3, .inl v3), (5, .inl v5)] rfl rfl rfl dX12_puts_138 ?_
            refine s_goto (tgt := 82) dX12_puts_141 (by decide) ?_
            exact s_loc [2, 3, 4, 1, 0] rfl (ih v3 v5 (v6 ||| 0) (v7 + 1) h)
          · skip
            refine s_aload0 0 rfl dX12_puts_125 ?_
            refine s_iload 4 rfl dX12_puts_126 ?_
            refine s_viI [.inl v7] (fun l b hb hl => cf_X12_mask G l v7 h b hb hl) me_X12_mask vi_RX12_235 rfl rfl rfl rfl rfl dX12_puts_128 (fun r13 => ?_)
            refine s_goto (tgt := 135) dX12_puts_131 (by decide) ?_
            refine s_ior dX12_puts_135 ?_
            refine s_istorew [(6, .inl (v6 ||| r13.1)), (0, .inr (.inr (12, 0))), (3, .inl v3), (5, .inl v5), (7, .inl v7)] rfl rfl dX12_puts_136 ?_
            refine s_iincw 1 (by decide) 4 [(7, .inl (v7 + 1)), (6, .inl (v6 ||| r13.1)), (0, .inr (.inr (12, 0))), (3, .inl v3), (5, .inl v5)] rfl rfl rfl dX12_puts_138 ?_
            refine s_goto (tgt := 82) dX12_puts_141 (by decide) ?_
            exact s_loc [2, 3, 4, 1, 0] rfl (ih v3 v5 (v6 ||| r13.1) (v7 + 1) r13.2)
set_option maxRecDepth 20000 in
theorem sf_X12_puts (G : mG) (X : mX) (x1 : Int32) (x2 : Int32)  (h : mH) : Sim G X cX12_puts 8 RX12 none (mRoom 5 113) eV (f_X12_puts x1 x2 h) 0 [(0, .inr (.inr (12, 0))), (1, .inl x1), (2, .inl x2)] [] h := by
  unfold f_X12_puts
  refine s_aload0 0 rfl dX12_puts_0 ?_
  refine s_gr (gR_RX12_169 0) dX12_puts_1 ?_
  refine s_iload2 2 rfl dX12_puts_4 ?_
  refine s_k1 dX12_puts_5 ?_
  refine s_iadd dX12_puts_6 ?_
  refine s_chk (fun q1 => ?_)
  refine s_ial aT_94 q1 dX12_puts_7 ?_
  refine s_istore3 [(3, .inl (h.1 94 0 (x2 + 1).toNatClampNeg)), (0, .inr (.inr (12, 0))), (1, .inl x1), (2, .inl x2)] rfl rfl dX12_puts_8 ?_
  refine s_aload0 1 rfl dX12_puts_9 ?_
  refine s_gr (gR_RX12_169 0) dX12_puts_10 ?_
  refine s_iload2 3 rfl dX12_puts_13 ?_
  refine s_k2 dX12_puts_14 ?_
  refine s_iadd dX12_puts_15 ?_
  refine s_chk (fun q2 => ?_)
  refine s_ial aT_94 q2 dX12_puts_16 ?_
  refine s_k1 dX12_puts_17 ?_
  refine s_ic_ne (tgt := 30) dX12_puts_18 (by decide) (fun q3 => ?_) (fun q3 => ?_)
  · skip
    refine s_aload0 1 rfl dX12_puts_30 ?_
    refine s_gr (gR_RX12_169 0) dX12_puts_31 ?_
    refine s_iload2 3 rfl dX12_puts_34 ?_
    refine s_k2 dX12_puts_35 ?_
    refine s_iadd dX12_puts_36 ?_
    refine s_ial aT_94 q2 dX12_puts_37 ?_
    refine s_k2 dX12_puts_38 ?_
    refine s_ic_ne (tgt := 51) dX12_puts_39 (by decide) (fun q4 => ?_) (fun q4 => ?_)
    · skip
      refine s_k0 dX12_puts_51 ?_
      refine s_istorew [(4, .inl 0), (3, .inl (h.1 94 0 (x2 + 1).toNatClampNeg)), (0, .inr (.inr (12, 0))), (1, .inl x1), (2, .inl x2)] rfl rfl dX12_puts_52 ?_
      refine s_aload0 2 rfl dX12_puts_54 ?_
      refine s_gr (gR_RX12_169 0) dX12_puts_55 ?_
      refine s_iload2 4 rfl dX12_puts_58 ?_
      refine s_k4 dX12_puts_59 ?_
      refine s_iadd dX12_puts_60 ?_
      refine s_chk (fun q5 => ?_)
      refine s_ial aT_94 q5 dX12_puts_61 ?_
      refine s_iload 0 rfl dX12_puts_62 ?_
      refine s_aload0 2 rfl dX12_puts_64 ?_
      refine s_gr (gR_RX12_169 0) dX12_puts_65 ?_
      refine s_iload2 4 rfl dX12_puts_68 ?_
      refine s_k3 dX12_puts_69 ?_
      refine s_iadd dX12_puts_70 ?_
      refine s_chk (fun q6 => ?_)
      refine s_ial aT_94 q6 dX12_puts_71 ?_
      refine s_iand dX12_puts_72 ?_
      refine s_ior dX12_puts_73 ?_
      refine s_istorew [(5, .inl ((h.1 94 0 (x2 + 4).toNatClampNeg) ||| (0 &&& (h.1 94 0 (x2 + 3).toNatClampNeg)))), (4, .inl 0), (3, .inl (h.1 94 0 (x2 + 1).toNatClampNeg)), (0, .inr (.inr (12, 0))), (1, .inl x1), (2, .inl x2)] rfl rfl dX12_puts_74 ?_
      refine s_k0 dX12_puts_76 ?_
      refine s_istorew [(6, .inl 0), (5, .inl ((h.1 94 0 (x2 + 4).toNatClampNeg) ||| (0 &&& (h.1 94 0 (x2 + 3).toNatClampNeg)))), (4, .inl 0), (3, .inl (h.1 94 0 (x2 + 1).toNatClampNeg)), (0, .inr (.inr (12, 0))), (1, .inl x1), (2, .inl x2)] rfl rfl dX12_puts_77 ?_
      refine s_k0 dX12_puts_79 ?_
      refine s_istorew [(7, .inl 0), (6, .inl 0), (5, .inl ((h.1 94 0 (x2 + 4).toNatClampNeg) ||| (0 &&& (h.1 94 0 (x2 + 3).toNatClampNeg)))), (4, .inl 0), (3, .inl (h.1 94 0 (x2 + 1).toNatClampNeg)), (0, .inr (.inr (12, 0))), (1, .inl x1), (2, .inl x2)] rfl rfl dX12_puts_80 ?_
      refine s_loc [5, 4, 2, 1, 0] rfl ?_
      refine sf_X12_puts_82 G X  _ (fun u14 u15 u16 u17 h18 => ?_) mFu (h.1 94 0 (x2 + 1).toNatClampNeg) ((h.1 94 0 (x2 + 4).toNatClampNeg) ||| (0 &&& (h.1 94 0 (x2 + 3).toNatClampNeg))) 0 0 h
      · skip
        refine s_aload0 0 rfl dX12_puts_144 ?_
        refine s_iload3 1 rfl dX12_puts_145 ?_
        refine s_iload 2 rfl dX12_puts_146 ?_
        refine s_viV [.inl u14, .inl u15] (fun l b hb hl => cf_X12_writes G l u14 u15 h18 b hb hl) me_X12_writes vi_RX12_311 rfl rfl rfl rfl rfl dX12_puts_148 (fun r19 => ?_)
        refine s_aload0 0 rfl dX12_puts_151 ?_
        refine s_gr (gR_RX12_83 0) dX12_puts_152 ?_
        refine s_iload3 1 rfl dX12_puts_155 ?_
        refine s_iload 2 rfl dX12_puts_156 ?_
        refine s_iload 3 rfl dX12_puts_158 ?_
        refine s_iand dX12_puts_160 ?_
        refine s_chk (fun q20 => ?_)
        refine s_ias aT_68 q20 dX12_puts_161 ?_
        refine s_aload0 0 rfl dX12_puts_162 ?_
        refine s_viV [] (fun l b hb hl => cf_X12_ticks G l  (uI r19 68 0 u14.toNatClampNeg (u15 &&& u16)) b hb hl) me_X12_ticks vi_RX12_244 rfl rfl rfl rfl rfl dX12_puts_163 (fun r21 => ?_)
        exact s_return rfl rfl dX12_puts_166
    · skip
      refine s_aload0 1 rfl dX12_puts_42 ?_
      refine s_gr (gR_RX12_83 0) dX12_puts_43 ?_
      refine s_iload3 0 rfl dX12_puts_46 ?_
      refine s_chk (fun q22 => ?_)
      refine s_ial aT_68 q22 dX12_puts_47 ?_
      refine s_goto (tgt := 52) dX12_puts_48 (by decide) ?_
      refine s_istorew [(4, .inl (h.1 68 0 (h.1 94 0 (x2 + 1).toNatClampNeg).toNatClampNeg)), (3, .inl (h.1 94 0 (x2 + 1).toNatClampNeg)), (0, .inr (.inr (12, 0))), (1, .inl x1), (2, .inl x2)] rfl rfl dX12_puts_52 ?_
      refine s_aload0 2 rfl dX12_puts_54 ?_
      refine s_gr (gR_RX12_169 0) dX12_puts_55 ?_
      refine s_iload2 4 rfl dX12_puts_58 ?_
      refine s_k4 dX12_puts_59 ?_
      refine s_iadd dX12_puts_60 ?_
      refine s_chk (fun q23 => ?_)
      refine s_ial aT_94 q23 dX12_puts_61 ?_
      refine s_iload 0 rfl dX12_puts_62 ?_
      refine s_aload0 2 rfl dX12_puts_64 ?_
      refine s_gr (gR_RX12_169 0) dX12_puts_65 ?_
      refine s_iload2 4 rfl dX12_puts_68 ?_
      refine s_k3 dX12_puts_69 ?_
      refine s_iadd dX12_puts_70 ?_
      refine s_chk (fun q24 => ?_)
      refine s_ial aT_94 q24 dX12_puts_71 ?_
      refine s_iand dX12_puts_72 ?_
      refine s_ior dX12_puts_73 ?_
      refine s_istorew [(5, .inl ((h.1 94 0 (x2 + 4).toNatClampNeg) ||| ((h.1 68 0 (h.1 94 0 (x2 + 1).toNatClampNeg).toNatClampNeg) &&& (h.1 94 0 (x2 + 3).toNatClampNeg)))), (4, .inl (h.1 68 0 (h.1 94 0 (x2 + 1).toNatClampNeg).toNatClampNeg)), (3, .inl (h.1 94 0 (x2 + 1).toNatClampNeg)), (0, .inr (.inr (12, 0))), (1, .inl x1), (2, .inl x2)] rfl rfl dX12_puts_74 ?_
      refine s_k0 dX12_puts_76 ?_
      refine s_istorew [(6, .inl 0), (5, .inl ((h.1 94 0 (x2 + 4).toNatClampNeg) ||| ((h.1 68 0 (h.1 94 0 (x2 + 1).toNatClampNeg).toNatClampNeg) &&& (h.1 94 0 (x2 + 3).toNatClampNeg)))), (4, .inl (h.1 68 0 (h.1 94 0 (x2 + 1).toNatClampNeg).toNatClampNeg)), (3, .inl (h.1 94 0 (x2 + 1).toNatClampNeg)), (0, .inr (.inr (12, 0))), (1, .inl x1), (2, .inl x2)] rfl rfl dX12_puts_77 ?_
      refine s_k0 dX12_puts_79 ?_
      refine s_istorew [(7, .inl 0), (6, .inl 0), (5, .inl ((h.1 94 0 (x2 + 4).toNatClampNeg) ||| ((h.1 68 0 (h.1 94 0 (x2 + 1).toNatClampNeg).toNatClampNeg) &&& (h.1 94 0 (x2 + 3).toNatClampNeg)))), (4, .inl (h.1 68 0 (h.1 94 0 (x2 + 1).toNatClampNeg).toNatClampNeg)), (3, .inl (h.1 94 0 (x2 + 1).toNatClampNeg)), (0, .inr (.inr (12, 0))), (1, .inl x1), (2, .inl x2)] rfl rfl dX12_puts_80 ?_
      refine s_loc [5, 4, 2, 1, 0] rfl ?_
      refine sf_X12_puts_82 G X  _ (fun u25 u26 u27 u28 h29 => ?_) mFu (h.1 94 0 (x2 + 1).toNatClampNeg) ((h.1 94 0 (x2 + 4).toNatClampNeg) ||| ((h.1 68 0 (h.1 94 0 (x2 + 1).toNatClampNeg).toNatClampNeg) &&& (h.1 94 0 (x2 + 3).toNatClampNeg))) 0 0 h
      · skip
        refine s_aload0 0 rfl dX12_puts_144 ?_
        refine s_iload3 1 rfl dX12_puts_145 ?_
        refine s_iload 2 rfl dX12_puts_146 ?_
        refine s_viV [.inl u25, .inl u26] (fun l b hb hl => cf_X12_writes G l u25 u26 h29 b hb hl) me_X12_writes vi_RX12_311 rfl rfl rfl rfl rfl dX12_puts_148 (fun r30 => ?_)
        refine s_aload0 0 rfl dX12_puts_151 ?_
        refine s_gr (gR_RX12_83 0) dX12_puts_152 ?_
        refine s_iload3 1 rfl dX12_puts_155 ?_
        refine s_iload 2 rfl dX12_puts_156 ?_
        refine s_iload 3 rfl dX12_puts_158 ?_
        refine s_iand dX12_puts_160 ?_
        refine s_chk (fun q31 => ?_)
        refine s_ias aT_68 q31 dX12_puts_161 ?_
        refine s_aload0 0 rfl dX12_puts_162 ?_
        refine s_viV [] (fun l b hb hl => cf_X12_ticks G l  (uI r30 68 0 u25.toNatClampNeg (u26 &&& u27)) b hb hl) me_X12_ticks vi_RX12_244 rfl rfl rfl rfl rfl dX12_puts_163 (fun r32 => ?_)
        exact s_return rfl rfl dX12_puts_166
  · skip
    refine s_aload0 1 rfl dX12_puts_21 ?_
    refine s_gr (gR_RX12_172 0) dX12_puts_22 ?_
    refine s_iload1 2 rfl dX12_puts_25 ?_
    refine s_chk (fun q33 => ?_)
    refine s_ial aT_95 q33 dX12_puts_26 ?_
    refine s_goto (tgt := 52) dX12_puts_27 (by decide) ?_
    refine s_istorew [(4, .inl (h.1 95 0 x1.toNatClampNeg)), (3, .inl (h.1 94 0 (x2 + 1).toNatClampNeg)), (0, .inr (.inr (12, 0))), (1, .inl x1), (2, .inl x2)] rfl rfl dX12_puts_52 ?_
    refine s_aload0 2 rfl dX12_puts_54 ?_
    refine s_gr (gR_RX12_169 0) dX12_puts_55 ?_
    refine s_iload2 4 rfl dX12_puts_58 ?_
    refine s_k4 dX12_puts_59 ?_
    refine s_iadd dX12_puts_60 ?_
    refine s_chk (fun q34 => ?_)
    refine s_ial aT_94 q34 dX12_puts_61 ?_
    refine s_iload 0 rfl dX12_puts_62 ?_
    refine s_aload0 2 rfl dX12_puts_64 ?_
    refine s_gr (gR_RX12_169 0) dX12_puts_65 ?_
    refine s_iload2 4 rfl dX12_puts_68 ?_
    refine s_k3 dX12_puts_69 ?_
    refine s_iadd dX12_puts_70 ?_
    refine s_chk (fun q35 => ?_)
    refine s_ial aT_94 q35 dX12_puts_71 ?_
    refine s_iand dX12_puts_72 ?_
    refine s_ior dX12_puts_73 ?_
    refine s_istorew [(5, .inl ((h.1 94 0 (x2 + 4).toNatClampNeg) ||| ((h.1 95 0 x1.toNatClampNeg) &&& (h.1 94 0 (x2 + 3).toNatClampNeg)))), (4, .inl (h.1 95 0 x1.toNatClampNeg)), (3, .inl (h.1 94 0 (x2 + 1).toNatClampNeg)), (0, .inr (.inr (12, 0))), (1, .inl x1), (2, .inl x2)] rfl rfl dX12_puts_74 ?_
    refine s_k0 dX12_puts_76 ?_
    refine s_istorew [(6, .inl 0), (5, .inl ((h.1 94 0 (x2 + 4).toNatClampNeg) ||| ((h.1 95 0 x1.toNatClampNeg) &&& (h.1 94 0 (x2 + 3).toNatClampNeg)))), (4, .inl (h.1 95 0 x1.toNatClampNeg)), (3, .inl (h.1 94 0 (x2 + 1).toNatClampNeg)), (0, .inr (.inr (12, 0))), (1, .inl x1), (2, .inl x2)] rfl rfl dX12_puts_77 ?_
    refine s_k0 dX12_puts_79 ?_
    refine s_istorew [(7, .inl 0), (6, .inl 0), (5, .inl ((h.1 94 0 (x2 + 4).toNatClampNeg) ||| ((h.1 95 0 x1.toNatClampNeg) &&& (h.1 94 0 (x2 + 3).toNatClampNeg)))), (4, .inl (h.1 95 0 x1.toNatClampNeg)), (3, .inl (h.1 94 0 (x2 + 1).toNatClampNeg)), (0, .inr (.inr (12, 0))), (1, .inl x1), (2, .inl x2)] rfl rfl dX12_puts_80 ?_
    refine s_loc [5, 4, 2, 1, 0] rfl ?_
    refine sf_X12_puts_82 G X  _ (fun u36 u37 u38 u39 h40 => ?_) mFu (h.1 94 0 (x2 + 1).toNatClampNeg) ((h.1 94 0 (x2 + 4).toNatClampNeg) ||| ((h.1 95 0 x1.toNatClampNeg) &&& (h.1 94 0 (x2 + 3).toNatClampNeg))) 0 0 h
    · skip
      refine s_aload0 0 rfl dX12_puts_144 ?_
      refine s_iload3 1 rfl dX12_puts_145 ?_
      refine s_iload 2 rfl dX12_puts_146 ?_
      refine s_viV [.inl u36, .inl u37] (fun l b hb hl => cf_X12_writes G l u36 u37 h40 b hb hl) me_X12_writes vi_RX12_311 rfl rfl rfl rfl rfl dX12_puts_148 (fun r41 => ?_)
      refine s_aload0 0 rfl dX12_puts_151 ?_
      refine s_gr (gR_RX12_83 0) dX12_puts_152 ?_
      refine s_iload3 1 rfl dX12_puts_155 ?_
      refine s_iload 2 rfl dX12_puts_156 ?_
      refine s_iload 3 rfl dX12_puts_158 ?_
      refine s_iand dX12_puts_160 ?_
      refine s_chk (fun q42 => ?_)
      refine s_ias aT_68 q42 dX12_puts_161 ?_
      refine s_aload0 0 rfl dX12_puts_162 ?_
      refine s_viV [] (fun l b hb hl => cf_X12_ticks G l  (uI r41 68 0 u36.toNatClampNeg (u37 &&& u38)) b hb hl) me_X12_ticks vi_RX12_244 rfl rfl rfl rfl rfl dX12_puts_163 (fun r43 => ?_)
      exact s_return rfl rfl dX12_puts_166
set_option maxRecDepth 20000 in
theorem cf_X12_puts (G : mG) (l : Launch) (x1 : Int32) (x2 : Int32)  (h : mH) (b : mH) (hb : f_X12_puts x1 x2 h = some b) (hl : ∀ v ∈ ([.inr (.inr (12, 0)), .inl x1, .inl x2] : List mV), mLi v) : mMet G l yX12_puts cX12_puts 8 none (mRoom 5 113) [.inr (.inr (12, 0)), .inl x1, .inl x2] h (eV b) :=
  mMet.of (y := yX12_puts) (as := [.inr (.inr (12, 0)), .inl x1, .inl x2]) (by decide +kernel) (Nat.le_of_ble_eq_true rfl) (fun X => sf_X12_puts G X x1 x2  h) hl b hb
-- DriverBookModel.picks(II)V
def f_X12_picks (x1 : Int32) (x2 : Int32) (h : mH) : Option (mH) :=
  if mIn x2 24 = true then
  if (h.1 49 0 x2.toNatClampNeg) = 3 then
    mLet (uI h 12 0 38 (h.1 66 0 x2.toNatClampNeg)) fun h5 =>
    some (uI h5 66 0 x2.toNatClampNeg 0)
  else
    if mIn x1 2 = true then
    (f_X12_bitsOf x2 (h.1 95 0 x1.toNatClampNeg) h).bind fun r4 =>
    some (uI r4.2 12 0 38 r4.1)
    else none
  else none
set_option maxRecDepth 20000 in
theorem sf_X12_picks (G : mG) (X : mX) (x1 : Int32) (x2 : Int32)  (h : mH) : Sim G X cX12_picks 3 RX12 none (mRoom 2 43) eV (f_X12_picks x1 x2 h) 0 [(0, .inr (.inr (12, 0))), (1, .inl x1), (2, .inl x2)] [] h := by
  unfold f_X12_picks
  refine s_aload0 0 rfl dX12_picks_0 ?_
  refine s_gr (gR_RX12_23 0) dX12_picks_1 ?_
  refine s_iload2 2 rfl dX12_picks_4 ?_
  refine s_chk (fun q1 => ?_)
  refine s_ial aT_49 q1 dX12_picks_5 ?_
  refine s_k3 dX12_picks_6 ?_
  refine s_ic_ne (tgt := 30) dX12_picks_7 (by decide) (fun q2 => ?_) (fun q2 => ?_)
  · skip
    refine s_aload0 0 rfl dX12_picks_30 ?_
    refine s_aload0 0 rfl dX12_picks_31 ?_
    refine s_iload2 2 rfl dX12_picks_32 ?_
    refine s_aload0 0 rfl dX12_picks_33 ?_
    refine s_gr (gR_RX12_172 0) dX12_picks_34 ?_
    refine s_iload1 1 rfl dX12_picks_37 ?_
    refine s_chk (fun q3 => ?_)
    refine s_ial aT_95 q3 dX12_picks_38 ?_
    refine s_viI [.inl x2, .inl (h.1 95 0 x1.toNatClampNeg)] (fun l b hb hl => cf_X12_bitsOf G l x2 (h.1 95 0 x1.toNatClampNeg) h b hb hl) me_X12_bitsOf vi_RX12_247 rfl rfl rfl rfl rfl dX12_picks_39 (fun r4 => ?_)
    refine s_pi pI_RX12_216 dX12_picks_42 ?_
    exact s_return rfl rfl dX12_picks_45
  · skip
    refine s_aload0 0 rfl dX12_picks_10 ?_
    refine s_aload0 0 rfl dX12_picks_11 ?_
    refine s_gr (gR_RX12_77 0) dX12_picks_12 ?_
    refine s_iload2 2 rfl dX12_picks_15 ?_
    refine s_ial aT_66 q1 dX12_picks_16 ?_
    refine s_pi pI_RX12_216 dX12_picks_17 ?_
    refine s_aload0 0 rfl dX12_picks_20 ?_
    refine s_gr (gR_RX12_77 0) dX12_picks_21 ?_
    refine s_iload2 2 rfl dX12_picks_24 ?_
    refine s_k0 dX12_picks_25 ?_
    refine s_let (fun h5 => ?_)
    refine s_ias aT_66 q1 dX12_picks_26 ?_
    refine s_goto (tgt := 45) dX12_picks_27 (by decide) ?_
    exact s_return rfl rfl dX12_picks_45
set_option maxRecDepth 20000 in
theorem cf_X12_picks (G : mG) (l : Launch) (x1 : Int32) (x2 : Int32)  (h : mH) (b : mH) (hb : f_X12_picks x1 x2 h = some b) (hl : ∀ v ∈ ([.inr (.inr (12, 0)), .inl x1, .inl x2] : List mV), mLi v) : mMet G l yX12_picks cX12_picks 3 none (mRoom 2 43) [.inr (.inr (12, 0)), .inl x1, .inl x2] h (eV b) :=
  mMet.of (y := yX12_picks) (as := [.inr (.inr (12, 0)), .inl x1, .inl x2]) (by decide +kernel) (Nat.le_of_ble_eq_true rfl) (fun X => sf_X12_picks G X x1 x2  h) hl b hb
def f_X12_runs_0 (_ _ : Int32) (_ : mH) : Option (Int32 × mH) := none
theorem cf_X12_runs_0 (G : mG) (l : Launch) (x1 x2 : Int32) (h : mH) (b : Int32 × mH) (hb : f_X12_runs_0 x1 x2 h = some b) (_ : ∀ v ∈ ([.inr (.inr (12, 0)), .inl x1, .inl x2] : List mV), mLi v) : mMet G l yX12_runs cX12_runs 6 (some .boolean) (mRoom 0 0) [.inr (.inr (12, 0)), .inl x1, .inl x2] h (eI b) := by cases hb
-- DriverBookModel.handles(I)V
def f_X12_handles_1_2 (k : Int32 → Int32 → mH → Option (mH))  : Nat → Int32 → Int32 → mH → Option (mH)
  | 0, _, _, _ => none
  | n + 1, v1, v2, h =>
    if v1 = 0 then
      if (h.1 12 0 67) = 0 then
        if v2 < 8 then
          (f_X12_flagUp  h).bind fun r4 =>
          if r4.1 = (-1) then
            k v1 v2 r4.2
          else
            (f_X12_flagUp  r4.2).bind fun r6 =>
            if mIn r6.1 24 = true then
            (f_X12_runs_0 1 (r6.2.1 53 0 r6.1.toNatClampNeg) r6.2).bind fun r8 =>
            mLet (uI r8.2 12 0 38 (r6.2.1 12 0 38)) fun h9 =>
            mLet (uI h9 12 0 67 0) fun h10 =>
            f_X12_handles_1_2 k  n v1 (v2 + 1) (uI h10 12 0 37 ((h10.1 12 0 37) + 1))
            else none
        else
          k v1 v2 h
      else
        k v1 v2 h
    else
      k v1 v2 h
def f_X12_handles_1 (x1 : Int32) (h : mH) : Option (mH) :=
  f_X12_handles_1_2 (fun u11 u12 h13 =>
    some h13)  mFu x1 0 h
set_option maxRecDepth 20000 in
theorem sf_X12_handles_1_2 (G : mG) (X : mX)   (k : Int32 → Int32 → mH → Option (mH)) (hk : ∀ (v1 : Int32) (v2 : Int32) (h : mH), Sim G X cX12_handles 6 RX12 none (mRoom 1 25) eV (k v1 v2 h) 78 [(0, .inr (.inr (12, 0))), (1, .inl v1), (2, .inl v2)] [] h) (n : Nat) : ∀ (v1 : Int32) (v2 : Int32) (h : mH), Sim G X cX12_handles 6 RX12 none (mRoom 1 25) eV (f_X12_handles_1_2 k  n v1 v2 h) 2 [(0, .inr (.inr (12, 0))), (1, .inl v1), (2, .inl v2)] [] h := by
  induction n with
  | zero =>
    intro v1 v2 h
    exact s_none
  | succ n ih =>
    intro v1 v2 h
    unfold f_X12_handles_1_2
    refine s_iload1 1 rfl dX12_handles_2 ?_
    refine s_if_ne (tgt := 78) dX12_handles_3 (by decide) (fun q1 => ?_) (fun q1 => ?_)
    · skip
      exact s_loc [0, 1, 2] rfl (hk v1 v2 h)
    · skip
      refine s_aload0 0 rfl dX12_handles_6 ?_
      refine s_gi gI_RX12_292 dX12_handles_7 ?_
      refine s_if_ne (tgt := 78) dX12_handles_10 (by decide) (fun q2 => ?_) (fun q2 => ?_)
      · skip
        exact s_loc [0, 1, 2] rfl (hk v1 v2 h)
      · skip
        refine s_iload2 2 rfl dX12_handles_13 ?_
        refine s_bip 8 kb_8 dX12_handles_14 ?_
        refine s_ic_ge (tgt := 78) dX12_handles_16 (by decide) (fun q3 => ?_) (fun q3 => ?_)
        · skip
          exact s_loc [0, 1, 2] rfl (hk v1 v2 h)
        · skip
          refine s_aload0 0 rfl dX12_handles_19 ?_
          refine s_viI [] (fun l b hb hl => cf_X12_flagUp G l  h b hb hl) me_X12_flagUp vi_RX12_296 rfl rfl rfl rfl rfl dX12_handles_20 (fun r4 => ?_)
          refine s_km1 dX12_handles_23 ?_
          refine s_ic_eq (tgt := 78) dX12_handles_24 (by decide) (fun q5 => ?_) (fun q5 => ?_)
          · skip
            exact s_loc [0, 1, 2] rfl (hk v1 v2 r4.2)
          · skip
            refine s_aload0 0 rfl dX12_handles_27 ?_
            refine s_viI [] (fun l b hb hl => cf_X12_flagUp G l  r4.2 b hb hl) me_X12_flagUp vi_RX12_296 rfl rfl rfl rfl rfl dX12_handles_28 (fun r6 => ?_)
            refine s_istore3 [(3, .inl r6.1), (0, .inr (.inr (12, 0))), (1, .inl v1), (2, .inl v2)] rfl rfl dX12_handles_31 ?_
            refine s_aload0 1 rfl dX12_handles_32 ?_
            refine s_gi gI_RX12_216 dX12_handles_33 ?_
            refine s_istorew [(4, .inl (r6.2.1 12 0 38)), (3, .inl r6.1), (0, .inr (.inr (12, 0))), (1, .inl v1), (2, .inl v2)] rfl rfl dX12_handles_36 ?_
            refine s_aload0 2 rfl dX12_handles_38 ?_
            refine s_k1 dX12_handles_39 ?_
            refine s_aload0 2 rfl dX12_handles_40 ?_
            refine s_gr (gR_RX12_35 0) dX12_handles_41 ?_
            refine s_iload3 1 rfl dX12_handles_44 ?_
            refine s_chk (fun q7 => ?_)
            refine s_ial aT_53 q7 dX12_handles_45 ?_
            refine s_viI [.inl 1, .inl (r6.2.1 53 0 r6.1.toNatClampNeg)] (fun l b hb hl => cf_X12_runs_0 G l 1 (r6.2.1 53 0 r6.1.toNatClampNeg) r6.2 b hb hl) me_X12_runs vi_RX12_300 rfl rfl rfl rfl rfl dX12_handles_46 (fun r8 => ?_)
            refine s_istorew [(5, .inl r8.1), (4, .inl (r6.2.1 12 0 38)), (3, .inl r6.1), (0, .inr (.inr (12, 0))), (1, .inl v1), (2, .inl v2)] rfl rfl dX12_handles_49 ?_
            refine s_aload0 3 rfl dX12_handles_51 ?_
            refine s_iload 1 rfl dX12_handles_52 ?_
            refine s_pi pI_RX12_216 dX12_handles_54 ?_
            refine s_aload0 3 rfl dX12_handles_57 ?_
            refine s_k0 dX12_handles_58 ?_
            refine s_let (fun h9 => ?_)
            refine s_pz pI_RX12_292 (Or.inl rfl) dX12_handles_59 ?_
            refine s_aload0 3 rfl dX12_handles_62 ?_
            refine s_dup rfl dX12_handles_63 ?_
            refine s_let (fun h10 => ?_)
            refine s_gi gI_RX12_213 dX12_handles_64 ?_
            refine s_k1 dX12_handles_67 ?_
            refine s_iadd dX12_handles_68 ?_
            refine s_pi pI_RX12_213 dX12_handles_69 ?_
            refine s_iincw 1 (by decide) 5 [(2, .inl (v2 + 1)), (5, .inl r8.1), (4, .inl (r6.2.1 12 0 38)), (3, .inl r6.1), (0, .inr (.inr (12, 0))), (1, .inl v1)] rfl rfl rfl dX12_handles_72 ?_
            refine s_goto (tgt := 2) dX12_handles_75 (by decide) ?_
            exact s_loc [4, 5, 0] rfl (ih v1 (v2 + 1) (uI h10 12 0 37 ((h10.1 12 0 37) + 1)))
set_option maxRecDepth 20000 in
theorem sf_X12_handles_1 (G : mG) (X : mX) (x1 : Int32)  (h : mH) : Sim G X cX12_handles 6 RX12 none (mRoom 1 25) eV (f_X12_handles_1 x1 h) 0 [(0, .inr (.inr (12, 0))), (1, .inl x1)] [] h := by
  unfold f_X12_handles_1
  refine s_k0 dX12_handles_0 ?_
  refine s_istore2 [(2, .inl 0), (0, .inr (.inr (12, 0))), (1, .inl x1)] rfl rfl dX12_handles_1 ?_
  refine s_loc [1, 2, 0] rfl ?_
  refine sf_X12_handles_1_2 G X  _ (fun u11 u12 h13 => ?_) mFu x1 0 h
  · skip
    exact s_return rfl rfl dX12_handles_78
set_option maxRecDepth 20000 in
theorem cf_X12_handles_1 (G : mG) (l : Launch) (x1 : Int32)  (h : mH) (b : mH) (hb : f_X12_handles_1 x1 h = some b) (hl : ∀ v ∈ ([.inr (.inr (12, 0)), .inl x1] : List mV), mLi v) : mMet G l yX12_handles cX12_handles 6 none (mRoom 1 25) [.inr (.inr (12, 0)), .inl x1] h (eV b) :=
  mMet.of (y := yX12_handles) (as := [.inr (.inr (12, 0)), .inl x1]) (by decide +kernel) (Nat.le_of_ble_eq_true rfl) (fun X => sf_X12_handles_1 G X x1  h) hl b hb
-- DriverBookModel.polls(II)Z
def f_X12_polls_1_2 (k : Int32 → Int32 → Int32 → mH → Option (Int32 × mH))  : Nat → Int32 → Int32 → Int32 → mH → Option (Int32 × mH)
  | 0, _, _, _, _ => none
  | n + 1, v1, v2, v3, h =>
    if mIn (v2 + 5) 600 = true then
    if v3 ≤ (h.1 94 0 (v2 + 5).toNatClampNeg) then
      if v3 ≤ 0 then
        if mIn (v2 + 1) 600 = true then
        (f_X12_reads (h.1 94 0 (v2 + 1).toNatClampNeg) 1 h).bind fun r5 =>
        if mIn v1 2 = true then
        mLet (uI r5.2 95 0 v1.toNatClampNeg r5.1) fun h7 =>
        if mIn (v2 + 3) 600 = true then
        if mIn (v2 + 4) 600 = true then
        if ((h7.1 95 0 v1.toNatClampNeg) &&& (h7.1 94 0 (v2 + 3).toNatClampNeg)) = (h7.1 94 0 (v2 + 4).toNatClampNeg) then
          some (0, h7)
        else
          f_X12_polls_1_2 k  n v1 v2 (v3 + 1) h7
        else none
        else none
        else none
        else none
      else
        (f_X12_handles_1 v1 h).bind fun r11 =>
        if mIn (v2 + 1) 600 = true then
        (f_X12_reads (r11.1 94 0 (v2 + 1).toNatClampNeg) 1 r11).bind fun r13 =>
        if mIn v1 2 = true then
        mLet (uI r13.2 95 0 v1.toNatClampNeg r13.1) fun h15 =>
        if mIn (v2 + 3) 600 = true then
        if mIn (v2 + 4) 600 = true then
        if ((h15.1 95 0 v1.toNatClampNeg) &&& (h15.1 94 0 (v2 + 3).toNatClampNeg)) = (h15.1 94 0 (v2 + 4).toNatClampNeg) then
          some (0, h15)
        else
          f_X12_polls_1_2 k  n v1 v2 (v3 + 1) h15
        else none
        else none
        else none
        else none
    else
      k v1 v2 v3 h
    else none
def f_X12_polls_1 (x1 : Int32) (x2 : Int32) (h : mH) : Option (Int32 × mH) :=
  f_X12_polls_1_2 (fun u19 u20 u21 h22 =>
    some (1, h22))  mFu x1 x2 0 h
set_option maxRecDepth 20000 in
theorem sf_X12_polls_1_2 (G : mG) (X : mX)   (k : Int32 → Int32 → Int32 → mH → Option (Int32 × mH)) (hk : ∀ (v1 : Int32) (v2 : Int32) (v3 : Int32) (h : mH), Sim G X cX12_polls 4 RX12 (some .boolean) (mRoom 3 68) eI (k v1 v2 v3 h) 76 [(0, .inr (.inr (12, 0))), (1, .inl v1), (2, .inl v2), (3, .inl v3)] [] h) (n : Nat) : ∀ (v1 : Int32) (v2 : Int32) (v3 : Int32) (h : mH), Sim G X cX12_polls 4 RX12 (some .boolean) (mRoom 3 68) eI (f_X12_polls_1_2 k  n v1 v2 v3 h) 2 [(0, .inr (.inr (12, 0))), (1, .inl v1), (2, .inl v2), (3, .inl v3)] [] h := by
  induction n with
  | zero =>
    intro v1 v2 v3 h
    exact s_none
  | succ n ih =>
    intro v1 v2 v3 h
    unfold f_X12_polls_1_2
    refine s_iload3 3 rfl dX12_polls_2 ?_
    refine s_aload0 0 rfl dX12_polls_3 ?_
    refine s_gr (gR_RX12_169 0) dX12_polls_4 ?_
    refine s_iload2 2 rfl dX12_polls_7 ?_
    refine s_k5 dX12_polls_8 ?_
    refine s_iadd dX12_polls_9 ?_
    refine s_chk (fun q1 => ?_)
    refine s_ial aT_94 q1 dX12_polls_10 ?_
    refine s_ic_gt (tgt := 76) dX12_polls_11 (by decide) (fun q2 => ?_) (fun q2 => ?_)
    · skip
      exact s_loc [0, 1, 2, 3] rfl (hk v1 v2 v3 h)
    · skip
      refine s_iload3 3 rfl dX12_polls_14 ?_
      refine s_if_le (tgt := 23) dX12_polls_15 (by decide) (fun q3 => ?_) (fun q3 => ?_)
      · skip
        refine s_aload0 0 rfl dX12_polls_23 ?_
        refine s_gr (gR_RX12_172 0) dX12_polls_24 ?_
        refine s_iload1 1 rfl dX12_polls_27 ?_
        refine s_aload0 0 rfl dX12_polls_28 ?_
        refine s_aload0 0 rfl dX12_polls_29 ?_
        refine s_gr (gR_RX12_169 0) dX12_polls_30 ?_
        refine s_iload2 2 rfl dX12_polls_33 ?_
        refine s_k1 dX12_polls_34 ?_
        refine s_iadd dX12_polls_35 ?_
        refine s_chk (fun q4 => ?_)
        refine s_ial aT_94 q4 dX12_polls_36 ?_
        refine s_k1 dX12_polls_37 ?_
        refine s_viI [.inl (h.1 94 0 (v2 + 1).toNatClampNeg), .inl 1] (fun l b hb hl => cf_X12_reads G l (h.1 94 0 (v2 + 1).toNatClampNeg) 1 h b hb hl) me_X12_reads vi_RX12_307 rfl rfl rfl rfl rfl dX12_polls_38 (fun r5 => ?_)
        refine s_chk (fun q6 => ?_)
        refine s_ias aT_95 q6 dX12_polls_41 ?_
        refine s_aload0 0 rfl dX12_polls_42 ?_
        refine s_gr (gR_RX12_172 0) dX12_polls_43 ?_
        refine s_iload1 1 rfl dX12_polls_46 ?_
        refine s_let (fun h7 => ?_)
        refine s_ial aT_95 q6 dX12_polls_47 ?_
        refine s_aload0 0 rfl dX12_polls_48 ?_
        refine s_gr (gR_RX12_169 0) dX12_polls_49 ?_
        refine s_iload2 2 rfl dX12_polls_52 ?_
        refine s_k3 dX12_polls_53 ?_
        refine s_iadd dX12_polls_54 ?_
        refine s_chk (fun q8 => ?_)
        refine s_ial aT_94 q8 dX12_polls_55 ?_
        refine s_iand dX12_polls_56 ?_
        refine s_aload0 0 rfl dX12_polls_57 ?_
        refine s_gr (gR_RX12_169 0) dX12_polls_58 ?_
        refine s_iload2 2 rfl dX12_polls_61 ?_
        refine s_k4 dX12_polls_62 ?_
        refine s_iadd dX12_polls_63 ?_
        refine s_chk (fun q9 => ?_)
        refine s_ial aT_94 q9 dX12_polls_64 ?_
        refine s_ic_ne (tgt := 70) dX12_polls_65 (by decide) (fun q10 => ?_) (fun q10 => ?_)
        · skip
          refine s_iincw 1 (by decide) 3 [(3, .inl (v3 + 1)), (0, .inr (.inr (12, 0))), (1, .inl v1), (2, .inl v2)] rfl rfl rfl dX12_polls_70 ?_
          refine s_goto (tgt := 2) dX12_polls_73 (by decide) ?_
          exact s_loc [1, 2, 3, 0] rfl (ih v1 v2 (v3 + 1) h7)
        · skip
          refine s_k0 dX12_polls_68 ?_
          exact s_zreturn rfl rfl (Or.inl rfl) dX12_polls_69
      · skip
        refine s_aload0 0 rfl dX12_polls_18 ?_
        refine s_iload1 1 rfl dX12_polls_19 ?_
        refine s_viV [.inl v1] (fun l b hb hl => cf_X12_handles_1 G l v1 h b hb hl) me_X12_handles vi_RX12_303 rfl rfl rfl rfl rfl dX12_polls_20 (fun r11 => ?_)
        refine s_aload0 0 rfl dX12_polls_23 ?_
        refine s_gr (gR_RX12_172 0) dX12_polls_24 ?_
        refine s_iload1 1 rfl dX12_polls_27 ?_
        refine s_aload0 0 rfl dX12_polls_28 ?_
        refine s_aload0 0 rfl dX12_polls_29 ?_
        refine s_gr (gR_RX12_169 0) dX12_polls_30 ?_
        refine s_iload2 2 rfl dX12_polls_33 ?_
        refine s_k1 dX12_polls_34 ?_
        refine s_iadd dX12_polls_35 ?_
        refine s_chk (fun q12 => ?_)
        refine s_ial aT_94 q12 dX12_polls_36 ?_
        refine s_k1 dX12_polls_37 ?_
        refine s_viI [.inl (r11.1 94 0 (v2 + 1).toNatClampNeg), .inl 1] (fun l b hb hl => cf_X12_reads G l (r11.1 94 0 (v2 + 1).toNatClampNeg) 1 r11 b hb hl) me_X12_reads vi_RX12_307 rfl rfl rfl rfl rfl dX12_polls_38 (fun r13 => ?_)
        refine s_chk (fun q14 => ?_)
        refine s_ias aT_95 q14 dX12_polls_41 ?_
        refine s_aload0 0 rfl dX12_polls_42 ?_
        refine s_gr (gR_RX12_172 0) dX12_polls_43 ?_
        refine s_iload1 1 rfl dX12_polls_46 ?_
        refine s_let (fun h15 => ?_)
        refine s_ial aT_95 q14 dX12_polls_47 ?_
        refine s_aload0 0 rfl dX12_polls_48 ?_
        refine s_gr (gR_RX12_169 0) dX12_polls_49 ?_
        refine s_iload2 2 rfl dX12_polls_52 ?_
        refine s_k3 dX12_polls_53 ?_
        refine s_iadd dX12_polls_54 ?_
        refine s_chk (fun q16 => ?_)
        refine s_ial aT_94 q16 dX12_polls_55 ?_
        refine s_iand dX12_polls_56 ?_
        refine s_aload0 0 rfl dX12_polls_57 ?_
        refine s_gr (gR_RX12_169 0) dX12_polls_58 ?_
        refine s_iload2 2 rfl dX12_polls_61 ?_
        refine s_k4 dX12_polls_62 ?_
        refine s_iadd dX12_polls_63 ?_
        refine s_chk (fun q17 => ?_)
        refine s_ial aT_94 q17 dX12_polls_64 ?_
        refine s_ic_ne (tgt := 70) dX12_polls_65 (by decide) (fun q18 => ?_) (fun q18 => ?_)
        · skip
          refine s_iincw 1 (by decide) 3 [(3, .inl (v3 + 1)), (0, .inr (.inr (12, 0))), (1, .inl v1), (2, .inl v2)] rfl rfl rfl dX12_polls_70 ?_
          refine s_goto (tgt := 2) dX12_polls_73 (by decide) ?_
          exact s_loc [1, 2, 3, 0] rfl (ih v1 v2 (v3 + 1) h15)
        · skip
          refine s_k0 dX12_polls_68 ?_
          exact s_zreturn rfl rfl (Or.inl rfl) dX12_polls_69
set_option maxRecDepth 20000 in
theorem sf_X12_polls_1 (G : mG) (X : mX) (x1 : Int32) (x2 : Int32)  (h : mH) : Sim G X cX12_polls 4 RX12 (some .boolean) (mRoom 3 68) eI (f_X12_polls_1 x1 x2 h) 0 [(0, .inr (.inr (12, 0))), (1, .inl x1), (2, .inl x2)] [] h := by
  unfold f_X12_polls_1
  refine s_k0 dX12_polls_0 ?_
  refine s_istore3 [(3, .inl 0), (0, .inr (.inr (12, 0))), (1, .inl x1), (2, .inl x2)] rfl rfl dX12_polls_1 ?_
  refine s_loc [1, 2, 3, 0] rfl ?_
  refine sf_X12_polls_1_2 G X  _ (fun u19 u20 u21 h22 => ?_) mFu x1 x2 0 h
  · skip
    refine s_k1 dX12_polls_76 ?_
    exact s_zreturn rfl rfl (Or.inr rfl) dX12_polls_77
set_option maxRecDepth 20000 in
theorem cf_X12_polls_1 (G : mG) (l : Launch) (x1 : Int32) (x2 : Int32)  (h : mH) (b : Int32 × mH) (hb : f_X12_polls_1 x1 x2 h = some b) (hl : ∀ v ∈ ([.inr (.inr (12, 0)), .inl x1, .inl x2] : List mV), mLi v) : mMet G l yX12_polls cX12_polls 4 (some .boolean) (mRoom 3 68) [.inr (.inr (12, 0)), .inl x1, .inl x2] h (eI b) :=
  mMet.of (y := yX12_polls) (as := [.inr (.inr (12, 0)), .inl x1, .inl x2]) (by decide +kernel) (Nat.le_of_ble_eq_true rfl) (fun X => sf_X12_polls_1 G X x1 x2  h) hl b hb
-- DriverBookModel.pauses(II)V
def f_X12_pauses_1_2 (k : Int32 → Int32 → Int32 → mH → Option (mH))  : Nat → Int32 → Int32 → Int32 → mH → Option (mH)
  | 0, _, _, _, _ => none
  | n + 1, v1, v2, v3, h =>
    if v3 < v2 then
      if v3 ≤ 0 then
        (f_X12_ticks  h).bind fun r3 =>
        f_X12_pauses_1_2 k  n v1 v2 (v3 + 1) r3
      else
        (f_X12_handles_1 v1 h).bind fun r4 =>
        (f_X12_ticks  r4).bind fun r5 =>
        f_X12_pauses_1_2 k  n v1 v2 (v3 + 1) r5
    else
      k v1 v2 v3 h
def f_X12_pauses_1 (x1 : Int32) (x2 : Int32) (h : mH) : Option (mH) :=
  f_X12_pauses_1_2 (fun u6 u7 u8 h9 =>
    some h9)  mFu x1 x2 0 h
set_option maxRecDepth 20000 in
theorem sf_X12_pauses_1_2 (G : mG) (X : mX)   (k : Int32 → Int32 → Int32 → mH → Option (mH)) (hk : ∀ (v1 : Int32) (v2 : Int32) (v3 : Int32) (h : mH), Sim G X cX12_pauses 4 RX12 none (mRoom 2 50) eV (k v1 v2 v3 h) 26 [(0, .inr (.inr (12, 0))), (1, .inl v1), (2, .inl v2), (3, .inl v3)] [] h) (n : Nat) : ∀ (v1 : Int32) (v2 : Int32) (v3 : Int32) (h : mH), Sim G X cX12_pauses 4 RX12 none (mRoom 2 50) eV (f_X12_pauses_1_2 k  n v1 v2 v3 h) 2 [(0, .inr (.inr (12, 0))), (1, .inl v1), (2, .inl v2), (3, .inl v3)] [] h := by
  induction n with
  | zero =>
    intro v1 v2 v3 h
    exact s_none
  | succ n ih =>
    intro v1 v2 v3 h
    unfold f_X12_pauses_1_2
    refine s_iload3 3 rfl dX12_pauses_2 ?_
    refine s_iload2 2 rfl dX12_pauses_3 ?_
    refine s_ic_ge (tgt := 26) dX12_pauses_4 (by decide) (fun q1 => ?_) (fun q1 => ?_)
    · skip
      exact s_loc [0, 1, 2, 3] rfl (hk v1 v2 v3 h)
    · skip
      refine s_iload3 3 rfl dX12_pauses_7 ?_
      refine s_if_le (tgt := 16) dX12_pauses_8 (by decide) (fun q2 => ?_) (fun q2 => ?_)
      · skip
        refine s_aload0 0 rfl dX12_pauses_16 ?_
        refine s_viV [] (fun l b hb hl => cf_X12_ticks G l  h b hb hl) me_X12_ticks vi_RX12_244 rfl rfl rfl rfl rfl dX12_pauses_17 (fun r3 => ?_)
        refine s_iincw 1 (by decide) 3 [(3, .inl (v3 + 1)), (0, .inr (.inr (12, 0))), (1, .inl v1), (2, .inl v2)] rfl rfl rfl dX12_pauses_20 ?_
        refine s_goto (tgt := 2) dX12_pauses_23 (by decide) ?_
        exact s_loc [1, 2, 3, 0] rfl (ih v1 v2 (v3 + 1) r3)
      · skip
        refine s_aload0 0 rfl dX12_pauses_11 ?_
        refine s_iload1 1 rfl dX12_pauses_12 ?_
        refine s_viV [.inl v1] (fun l b hb hl => cf_X12_handles_1 G l v1 h b hb hl) me_X12_handles vi_RX12_303 rfl rfl rfl rfl rfl dX12_pauses_13 (fun r4 => ?_)
        refine s_aload0 0 rfl dX12_pauses_16 ?_
        refine s_viV [] (fun l b hb hl => cf_X12_ticks G l  r4 b hb hl) me_X12_ticks vi_RX12_244 rfl rfl rfl rfl rfl dX12_pauses_17 (fun r5 => ?_)
        refine s_iincw 1 (by decide) 3 [(3, .inl (v3 + 1)), (0, .inr (.inr (12, 0))), (1, .inl v1), (2, .inl v2)] rfl rfl rfl dX12_pauses_20 ?_
        refine s_goto (tgt := 2) dX12_pauses_23 (by decide) ?_
        exact s_loc [1, 2, 3, 0] rfl (ih v1 v2 (v3 + 1) r5)
set_option maxRecDepth 20000 in
theorem sf_X12_pauses_1 (G : mG) (X : mX) (x1 : Int32) (x2 : Int32)  (h : mH) : Sim G X cX12_pauses 4 RX12 none (mRoom 2 50) eV (f_X12_pauses_1 x1 x2 h) 0 [(0, .inr (.inr (12, 0))), (1, .inl x1), (2, .inl x2)] [] h := by
  unfold f_X12_pauses_1
  refine s_k0 dX12_pauses_0 ?_
  refine s_istore3 [(3, .inl 0), (0, .inr (.inr (12, 0))), (1, .inl x1), (2, .inl x2)] rfl rfl dX12_pauses_1 ?_
  refine s_loc [1, 2, 3, 0] rfl ?_
  refine sf_X12_pauses_1_2 G X  _ (fun u6 u7 u8 h9 => ?_) mFu x1 x2 0 h
  · skip
    exact s_return rfl rfl dX12_pauses_26
set_option maxRecDepth 20000 in
theorem cf_X12_pauses_1 (G : mG) (l : Launch) (x1 : Int32) (x2 : Int32)  (h : mH) (b : mH) (hb : f_X12_pauses_1 x1 x2 h = some b) (hl : ∀ v ∈ ([.inr (.inr (12, 0)), .inl x1, .inl x2] : List mV), mLi v) : mMet G l yX12_pauses cX12_pauses 4 none (mRoom 2 50) [.inr (.inr (12, 0)), .inl x1, .inl x2] h (eV b) :=
  mMet.of (y := yX12_pauses) (as := [.inr (.inr (12, 0)), .inl x1, .inl x2]) (by decide +kernel) (Nat.le_of_ble_eq_true rfl) (fun X => sf_X12_pauses_1 G X x1 x2  h) hl b hb
-- DriverBookModel.runs(II)Z
def f_X12_runs_1_23 (k : Int32 → Int32 → Int32 → mH → Option (Int32 × mH))  : Nat → Int32 → Int32 → Int32 → mH → Option (Int32 × mH)
  | 0, _, _, _, _ => none
  | n + 1, v1, v3, v4, h =>
    if mIn v1 2 = true then
    if v4 < (h.1 93 0 v1.toNatClampNeg) then
      if v3 = 0 then
        (f_X12_handles_1 v1 h).bind fun r7 =>
        if mIn (6 * ((50 * v1) + v4)) 600 = true then
        if (r7.1 94 0 (6 * ((50 * v1) + v4)).toNatClampNeg) = 0 then
          if mIn ((6 * ((50 * v1) + v4)) + 1) 600 = true then
          (f_X12_reads (r7.1 94 0 ((6 * ((50 * v1) + v4)) + 1).toNatClampNeg) 1 r7).bind fun r11 =>
          f_X12_runs_1_23 k  n v1 v3 (v4 + 1) (uI r11.2 95 0 v1.toNatClampNeg r11.1)
          else none
        else
        if (r7.1 94 0 (6 * ((50 * v1) + v4)).toNatClampNeg) = 1 then
          (f_X12_puts v1 (6 * ((50 * v1) + v4)) r7).bind fun r13 =>
          f_X12_runs_1_23 k  n v1 v3 (v4 + 1) r13
        else
        if (r7.1 94 0 (6 * ((50 * v1) + v4)).toNatClampNeg) = 2 then
          (f_X12_polls_1 v1 (6 * ((50 * v1) + v4)) r7).bind fun r15 =>
          f_X12_runs_1_23 k  n v1 r15.1 (v4 + 1) r15.2
        else
        if (r7.1 94 0 (6 * ((50 * v1) + v4)).toNatClampNeg) = 3 then
          if mIn ((6 * ((50 * v1) + v4)) + 1) 600 = true then
          (f_X12_pauses_1 v1 (r7.1 94 0 ((6 * ((50 * v1) + v4)) + 1).toNatClampNeg) r7).bind fun r18 =>
          f_X12_runs_1_23 k  n v1 v3 (v4 + 1) r18
          else none
        else
        if (r7.1 94 0 (6 * ((50 * v1) + v4)).toNatClampNeg) = 4 then
          if mIn ((6 * ((50 * v1) + v4)) + 1) 600 = true then
          (f_X12_picks v1 (r7.1 94 0 ((6 * ((50 * v1) + v4)) + 1).toNatClampNeg) r7).bind fun r21 =>
          f_X12_runs_1_23 k  n v1 v3 (v4 + 1) r21
          else none
        else
        if (r7.1 94 0 (6 * ((50 * v1) + v4)).toNatClampNeg) = 5 then
          f_X12_runs_1_23 k  n v1 v3 (v4 + 1) (uI r7 12 0 67 1)
        else
          f_X12_runs_1_23 k  n v1 v3 (v4 + 1) (uI r7 12 0 67 0)
        else none
      else
        k v1 v3 v4 h
    else
      k v1 v3 v4 h
    else none
def f_X12_runs_1 (x1 : Int32) (x2 : Int32) (h : mH) : Option (Int32 × mH) :=
  (f_X12_makes x1 x2 h).bind fun r1 =>
  if mIn x1 2 = true then
  mLet (uI r1 95 0 x1.toNatClampNeg 0) fun h3 =>
  f_X12_runs_1_23 (fun u23 u24 u25 h26 =>
    (f_X12_handles_1 u23 (uI h26 12 0 67 0)).bind fun r27 =>
    if (u24 = 0 ∨ u24 = 1) then
    some (u24, r27)
    else none)  mFu x1 0 0 (uI h3 12 0 67 0)
  else none
set_option maxRecDepth 20000 in
theorem sf_X12_runs_1_23 (G : mG) (X : mX)   (k : Int32 → Int32 → Int32 → mH → Option (Int32 × mH)) (hk : ∀ (v1 : Int32) (v3 : Int32) (v4 : Int32) (h : mH), Sim G X cX12_runs 6 RX12 (some .boolean) (mRoom 6 140) eI (k v1 v3 v4 h) 197 [(0, .inr (.inr (12, 0))), (1, .inl v1), (3, .inl v3), (4, .inl v4)] [] h) (n : Nat) : ∀ (v1 : Int32) (v3 : Int32) (v4 : Int32) (h : mH), Sim G X cX12_runs 6 RX12 (some .boolean) (mRoom 6 140) eI (f_X12_runs_1_23 k  n v1 v3 v4 h) 23 [(0, .inr (.inr (12, 0))), (1, .inl v1), (3, .inl v3), (4, .inl v4)] [] h := by
  induction n with
  | zero =>
    intro v1 v3 v4 h
    exact s_none
  | succ n ih =>
    intro v1 v3 v4 h
    unfold f_X12_runs_1_23
    refine s_iload 3 rfl dX12_runs_23 ?_
    refine s_aload0 0 rfl dX12_runs_25 ?_
    refine s_gr (gR_RX12_166 0) dX12_runs_26 ?_
    refine s_iload1 1 rfl dX12_runs_29 ?_
    refine s_chk (fun q4 => ?_)
    refine s_ial aT_93 q4 dX12_runs_30 ?_
    refine s_ic_ge (tgt := 197) dX12_runs_31 (by decide) (fun q5 => ?_) (fun q5 => ?_)
    · skip
      exact s_loc [0, 1, 2, 3] rfl (hk v1 v3 v4 h)
    · skip
      refine s_iload3 2 rfl dX12_runs_34 ?_
      refine s_if_ne (tgt := 197) dX12_runs_35 (by decide) (fun q6 => ?_) (fun q6 => ?_)
      · skip
        exact s_loc [0, 1, 2, 3] rfl (hk v1 v3 v4 h)
      · skip
        refine s_bip 6 kb_6 dX12_runs_38 ?_
        refine s_bip 50 kb_50 dX12_runs_40 ?_
        refine s_iload1 1 rfl dX12_runs_42 ?_
        refine s_imul dX12_runs_43 ?_
        refine s_iload 3 rfl dX12_runs_44 ?_
        refine s_iadd dX12_runs_46 ?_
        refine s_imul dX12_runs_47 ?_
        refine s_istorew [(5, .inl (6 * ((50 * v1) + v4))), (0, .inr (.inr (12, 0))), (1, .inl v1), (3, .inl v3), (4, .inl v4)] rfl rfl dX12_runs_48 ?_
        refine s_aload0 1 rfl dX12_runs_50 ?_
        refine s_iload1 2 rfl dX12_runs_51 ?_
        refine s_viV [.inl v1] (fun l b hb hl => cf_X12_handles_1 G l v1 h b hb hl) me_X12_handles vi_RX12_303 rfl rfl rfl rfl rfl dX12_runs_52 (fun r7 => ?_)
        refine s_aload0 1 rfl dX12_runs_55 ?_
        refine s_gr (gR_RX12_169 0) dX12_runs_56 ?_
        refine s_iload 0 rfl dX12_runs_59 ?_
        refine s_chk (fun q8 => ?_)
        refine s_ial aT_94 q8 dX12_runs_61 ?_
        refine s_case (fun q9 => ?_) (fun q9 => ?_)
        · skip
          refine s_tabP dX12_runs_62 0 q9 100 (by decide) (by decide) ?_
          refine s_aload0 1 rfl dX12_runs_100 ?_
          refine s_gr (gR_RX12_172 0) dX12_runs_101 ?_
          refine s_iload1 2 rfl dX12_runs_104 ?_
          refine s_aload0 1 rfl dX12_runs_105 ?_
          refine s_aload0 1 rfl dX12_runs_106 ?_
          refine s_gr (gR_RX12_169 0) dX12_runs_107 ?_
          refine s_iload 0 rfl dX12_runs_110 ?_
          refine s_k1 dX12_runs_112 ?_
          refine s_iadd dX12_runs_113 ?_
          refine s_chk (fun q10 => ?_)
          refine s_ial aT_94 q10 dX12_runs_114 ?_
          refine s_k1 dX12_runs_115 ?_
          refine s_viI [.inl (r7.1 94 0 ((6 * ((50 * v1) + v4)) + 1).toNatClampNeg), .inl 1] (fun l b hb hl => cf_X12_reads G l (r7.1 94 0 ((6 * ((50 * v1) + v4)) + 1).toNatClampNeg) 1 r7 b hb hl) me_X12_reads vi_RX12_307 rfl rfl rfl rfl rfl dX12_runs_116 (fun r11 => ?_)
          refine s_ias aT_95 q4 dX12_runs_119 ?_
          refine s_goto (tgt := 191) dX12_runs_120 (by decide) ?_
          refine s_iincw 1 (by decide) 4 [(4, .inl (v4 + 1)), (5, .inl (6 * ((50 * v1) + v4))), (0, .inr (.inr (12, 0))), (1, .inl v1), (3, .inl v3)] rfl rfl rfl dX12_runs_191 ?_
          refine s_goto (tgt := 23) dX12_runs_194 (by decide) ?_
          exact s_loc [2, 3, 4, 0] rfl (ih v1 v3 (v4 + 1) (uI r11.2 95 0 v1.toNatClampNeg r11.1))
        refine s_case (fun q12 => ?_) (fun q12 => ?_)
        · skip
          refine s_tabP dX12_runs_62 1 q12 123 (by decide) (by decide) ?_
          refine s_aload0 1 rfl dX12_runs_123 ?_
          refine s_iload1 2 rfl dX12_runs_124 ?_
          refine s_iload 0 rfl dX12_runs_125 ?_
          refine s_viV [.inl v1, .inl (6 * ((50 * v1) + v4))] (fun l b hb hl => cf_X12_puts G l v1 (6 * ((50 * v1) + v4)) r7 b hb hl) me_X12_puts vi_RX12_314 rfl rfl rfl rfl rfl dX12_runs_127 (fun r13 => ?_)
          refine s_goto (tgt := 191) dX12_runs_130 (by decide) ?_
          refine s_iincw 1 (by decide) 4 [(4, .inl (v4 + 1)), (5, .inl (6 * ((50 * v1) + v4))), (0, .inr (.inr (12, 0))), (1, .inl v1), (3, .inl v3)] rfl rfl rfl dX12_runs_191 ?_
          refine s_goto (tgt := 23) dX12_runs_194 (by decide) ?_
          exact s_loc [2, 3, 4, 0] rfl (ih v1 v3 (v4 + 1) r13)
        refine s_case (fun q14 => ?_) (fun q14 => ?_)
        · skip
          refine s_tabP dX12_runs_62 2 q14 133 (by decide) (by decide) ?_
          refine s_aload0 1 rfl dX12_runs_133 ?_
          refine s_iload1 2 rfl dX12_runs_134 ?_
          refine s_iload 0 rfl dX12_runs_135 ?_
          refine s_viI [.inl v1, .inl (6 * ((50 * v1) + v4))] (fun l b hb hl => cf_X12_polls_1 G l v1 (6 * ((50 * v1) + v4)) r7 b hb hl) me_X12_polls vi_RX12_317 rfl rfl rfl rfl rfl dX12_runs_137 (fun r15 => ?_)
          refine s_istore3 [(3, .inl r15.1), (5, .inl (6 * ((50 * v1) + v4))), (0, .inr (.inr (12, 0))), (1, .inl v1), (4, .inl v4)] rfl rfl dX12_runs_140 ?_
          refine s_goto (tgt := 191) dX12_runs_141 (by decide) ?_
          refine s_iincw 1 (by decide) 4 [(4, .inl (v4 + 1)), (3, .inl r15.1), (5, .inl (6 * ((50 * v1) + v4))), (0, .inr (.inr (12, 0))), (1, .inl v1)] rfl rfl rfl dX12_runs_191 ?_
          refine s_goto (tgt := 23) dX12_runs_194 (by decide) ?_
          exact s_loc [3, 4, 1, 0] rfl (ih v1 r15.1 (v4 + 1) r15.2)
        refine s_case (fun q16 => ?_) (fun q16 => ?_)
        · skip
          refine s_tabP dX12_runs_62 3 q16 144 (by decide) (by decide) ?_
          refine s_aload0 1 rfl dX12_runs_144 ?_
          refine s_iload1 2 rfl dX12_runs_145 ?_
          refine s_aload0 1 rfl dX12_runs_146 ?_
          refine s_gr (gR_RX12_169 0) dX12_runs_147 ?_
          refine s_iload 0 rfl dX12_runs_150 ?_
          refine s_k1 dX12_runs_152 ?_
          refine s_iadd dX12_runs_153 ?_
          refine s_chk (fun q17 => ?_)
          refine s_ial aT_94 q17 dX12_runs_154 ?_
          refine s_viV [.inl v1, .inl (r7.1 94 0 ((6 * ((50 * v1) + v4)) + 1).toNatClampNeg)] (fun l b hb hl => cf_X12_pauses_1 G l v1 (r7.1 94 0 ((6 * ((50 * v1) + v4)) + 1).toNatClampNeg) r7 b hb hl) me_X12_pauses vi_RX12_320 rfl rfl rfl rfl rfl dX12_runs_155 (fun r18 => ?_)
          refine s_goto (tgt := 191) dX12_runs_158 (by decide) ?_
          refine s_iincw 1 (by decide) 4 [(4, .inl (v4 + 1)), (5, .inl (6 * ((50 * v1) + v4))), (0, .inr (.inr (12, 0))), (1, .inl v1), (3, .inl v3)] rfl rfl rfl dX12_runs_191 ?_
          refine s_goto (tgt := 23) dX12_runs_194 (by decide) ?_
          exact s_loc [2, 3, 4, 0] rfl (ih v1 v3 (v4 + 1) r18)
        refine s_case (fun q19 => ?_) (fun q19 => ?_)
        · skip
          refine s_tabP dX12_runs_62 4 q19 161 (by decide) (by decide) ?_
          refine s_aload0 1 rfl dX12_runs_161 ?_
          refine s_iload1 2 rfl dX12_runs_162 ?_
          refine s_aload0 1 rfl dX12_runs_163 ?_
          refine s_gr (gR_RX12_169 0) dX12_runs_164 ?_
          refine s_iload 0 rfl dX12_runs_167 ?_
          refine s_k1 dX12_runs_169 ?_
          refine s_iadd dX12_runs_170 ?_
          refine s_chk (fun q20 => ?_)
          refine s_ial aT_94 q20 dX12_runs_171 ?_
          refine s_viV [.inl v1, .inl (r7.1 94 0 ((6 * ((50 * v1) + v4)) + 1).toNatClampNeg)] (fun l b hb hl => cf_X12_picks G l v1 (r7.1 94 0 ((6 * ((50 * v1) + v4)) + 1).toNatClampNeg) r7 b hb hl) me_X12_picks vi_RX12_323 rfl rfl rfl rfl rfl dX12_runs_172 (fun r21 => ?_)
          refine s_goto (tgt := 191) dX12_runs_175 (by decide) ?_
          refine s_iincw 1 (by decide) 4 [(4, .inl (v4 + 1)), (5, .inl (6 * ((50 * v1) + v4))), (0, .inr (.inr (12, 0))), (1, .inl v1), (3, .inl v3)] rfl rfl rfl dX12_runs_191 ?_
          refine s_goto (tgt := 23) dX12_runs_194 (by decide) ?_
          exact s_loc [2, 3, 4, 0] rfl (ih v1 v3 (v4 + 1) r21)
        refine s_case (fun q22 => ?_) (fun q22 => ?_)
        · skip
          refine s_tabP dX12_runs_62 5 q22 178 (by decide) (by decide) ?_
          refine s_aload0 1 rfl dX12_runs_178 ?_
          refine s_k1 dX12_runs_179 ?_
          refine s_pz pI_RX12_292 (Or.inr rfl) dX12_runs_180 ?_
          refine s_goto (tgt := 191) dX12_runs_183 (by decide) ?_
          refine s_iincw 1 (by decide) 4 [(4, .inl (v4 + 1)), (5, .inl (6 * ((50 * v1) + v4))), (0, .inr (.inr (12, 0))), (1, .inl v1), (3, .inl v3)] rfl rfl rfl dX12_runs_191 ?_
          refine s_goto (tgt := 23) dX12_runs_194 (by decide) ?_
          exact s_loc [2, 3, 4, 0] rfl (ih v1 v3 (v4 + 1) (uI r7 12 0 67 1))
        refine s_tabD dX12_runs_62 [0, 1, 2, 3, 4, 5] (by refine List.forall_mem_cons.mpr ⟨q9, ?_⟩; refine List.forall_mem_cons.mpr ⟨q12, ?_⟩; refine List.forall_mem_cons.mpr ⟨q14, ?_⟩; refine List.forall_mem_cons.mpr ⟨q16, ?_⟩; refine List.forall_mem_cons.mpr ⟨q19, ?_⟩; refine List.forall_mem_cons.mpr ⟨q22, ?_⟩; exact fun _ z => absurd z List.not_mem_nil) (by decide) (by decide) 186 (by decide) ?_
        · skip
          refine s_aload0 1 rfl dX12_runs_186 ?_
          refine s_k0 dX12_runs_187 ?_
          refine s_pz pI_RX12_292 (Or.inl rfl) dX12_runs_188 ?_
          refine s_iincw 1 (by decide) 4 [(4, .inl (v4 + 1)), (5, .inl (6 * ((50 * v1) + v4))), (0, .inr (.inr (12, 0))), (1, .inl v1), (3, .inl v3)] rfl rfl rfl dX12_runs_191 ?_
          refine s_goto (tgt := 23) dX12_runs_194 (by decide) ?_
          exact s_loc [2, 3, 4, 0] rfl (ih v1 v3 (v4 + 1) (uI r7 12 0 67 0))
set_option maxRecDepth 20000 in
theorem sf_X12_runs_1 (G : mG) (X : mX) (x1 : Int32) (x2 : Int32)  (h : mH) : Sim G X cX12_runs 6 RX12 (some .boolean) (mRoom 6 140) eI (f_X12_runs_1 x1 x2 h) 0 [(0, .inr (.inr (12, 0))), (1, .inl x1), (2, .inl x2)] [] h := by
  unfold f_X12_runs_1
  refine s_aload0 0 rfl dX12_runs_0 ?_
  refine s_iload1 1 rfl dX12_runs_1 ?_
  refine s_iload2 2 rfl dX12_runs_2 ?_
  refine s_viV [.inl x1, .inl x2] (fun l b hb hl => cf_X12_makes G l x1 x2 h b hb hl) me_X12_makes vi_RX12_286 rfl rfl rfl rfl rfl dX12_runs_3 (fun r1 => ?_)
  refine s_aload0 0 rfl dX12_runs_6 ?_
  refine s_gr (gR_RX12_172 0) dX12_runs_7 ?_
  refine s_iload1 1 rfl dX12_runs_10 ?_
  refine s_k0 dX12_runs_11 ?_
  refine s_chk (fun q2 => ?_)
  refine s_ias aT_95 q2 dX12_runs_12 ?_
  refine s_aload0 0 rfl dX12_runs_13 ?_
  refine s_k0 dX12_runs_14 ?_
  refine s_let (fun h3 => ?_)
  refine s_pz pI_RX12_292 (Or.inl rfl) dX12_runs_15 ?_
  refine s_k0 dX12_runs_18 ?_
  refine s_istore3 [(3, .inl 0), (0, .inr (.inr (12, 0))), (1, .inl x1), (2, .inl x2)] rfl rfl dX12_runs_19 ?_
  refine s_k0 dX12_runs_20 ?_
  refine s_istorew [(4, .inl 0), (3, .inl 0), (0, .inr (.inr (12, 0))), (1, .inl x1), (2, .inl x2)] rfl rfl dX12_runs_21 ?_
  refine s_loc [2, 3, 1, 0] rfl ?_
  refine sf_X12_runs_1_23 G X  _ (fun u23 u24 u25 h26 => ?_) mFu x1 0 0 (uI h3 12 0 67 0)
  · skip
    refine s_aload0 0 rfl dX12_runs_197 ?_
    refine s_k0 dX12_runs_198 ?_
    refine s_pz pI_RX12_292 (Or.inl rfl) dX12_runs_199 ?_
    refine s_aload0 0 rfl dX12_runs_202 ?_
    refine s_iload1 1 rfl dX12_runs_203 ?_
    refine s_viV [.inl u23] (fun l b hb hl => cf_X12_handles_1 G l u23 (uI h26 12 0 67 0) b hb hl) me_X12_handles vi_RX12_303 rfl rfl rfl rfl rfl dX12_runs_204 (fun r27 => ?_)
    refine s_iload3 2 rfl dX12_runs_207 ?_
    refine s_chk (fun q28 => ?_)
    exact s_zreturn rfl rfl q28 dX12_runs_208
set_option maxRecDepth 20000 in
theorem cf_X12_runs_1 (G : mG) (l : Launch) (x1 : Int32) (x2 : Int32)  (h : mH) (b : Int32 × mH) (hb : f_X12_runs_1 x1 x2 h = some b) (hl : ∀ v ∈ ([.inr (.inr (12, 0)), .inl x1, .inl x2] : List mV), mLi v) : mMet G l yX12_runs cX12_runs 6 (some .boolean) (mRoom 6 140) [.inr (.inr (12, 0)), .inl x1, .inl x2] h (eI b) :=
  mMet.of (y := yX12_runs) (as := [.inr (.inr (12, 0)), .inl x1, .inl x2]) (by decide +kernel) (Nat.le_of_ble_eq_true rfl) (fun X => sf_X12_runs_1 G X x1 x2  h) hl b hb
-- DriverBookModel.handles(I)V
def f_X12_handles_2_2 (k : Int32 → Int32 → mH → Option (mH))  : Nat → Int32 → Int32 → mH → Option (mH)
  | 0, _, _, _ => none
  | n + 1, v1, v2, h =>
    if v1 = 0 then
      if (h.1 12 0 67) = 0 then
        if v2 < 8 then
          (f_X12_flagUp  h).bind fun r4 =>
          if r4.1 = (-1) then
            k v1 v2 r4.2
          else
            (f_X12_flagUp  r4.2).bind fun r6 =>
            if mIn r6.1 24 = true then
            (f_X12_runs_1 1 (r6.2.1 53 0 r6.1.toNatClampNeg) r6.2).bind fun r8 =>
            mLet (uI r8.2 12 0 38 (r6.2.1 12 0 38)) fun h9 =>
            mLet (uI h9 12 0 67 0) fun h10 =>
            f_X12_handles_2_2 k  n v1 (v2 + 1) (uI h10 12 0 37 ((h10.1 12 0 37) + 1))
            else none
        else
          k v1 v2 h
      else
        k v1 v2 h
    else
      k v1 v2 h
def f_X12_handles_2 (x1 : Int32) (h : mH) : Option (mH) :=
  f_X12_handles_2_2 (fun u11 u12 h13 =>
    some h13)  mFu x1 0 h
set_option maxRecDepth 20000 in
theorem sf_X12_handles_2_2 (G : mG) (X : mX)   (k : Int32 → Int32 → mH → Option (mH)) (hk : ∀ (v1 : Int32) (v2 : Int32) (h : mH), Sim G X cX12_handles 6 RX12 none (mRoom 7 165) eV (k v1 v2 h) 78 [(0, .inr (.inr (12, 0))), (1, .inl v1), (2, .inl v2)] [] h) (n : Nat) : ∀ (v1 : Int32) (v2 : Int32) (h : mH), Sim G X cX12_handles 6 RX12 none (mRoom 7 165) eV (f_X12_handles_2_2 k  n v1 v2 h) 2 [(0, .inr (.inr (12, 0))), (1, .inl v1), (2, .inl v2)] [] h := by
  induction n with
  | zero =>
    intro v1 v2 h
    exact s_none
  | succ n ih =>
    intro v1 v2 h
    unfold f_X12_handles_2_2
    refine s_iload1 1 rfl dX12_handles_2 ?_
    refine s_if_ne (tgt := 78) dX12_handles_3 (by decide) (fun q1 => ?_) (fun q1 => ?_)
    · skip
      exact s_loc [0, 1, 2] rfl (hk v1 v2 h)
    · skip
      refine s_aload0 0 rfl dX12_handles_6 ?_
      refine s_gi gI_RX12_292 dX12_handles_7 ?_
      refine s_if_ne (tgt := 78) dX12_handles_10 (by decide) (fun q2 => ?_) (fun q2 => ?_)
      · skip
        exact s_loc [0, 1, 2] rfl (hk v1 v2 h)
      · skip
        refine s_iload2 2 rfl dX12_handles_13 ?_
        refine s_bip 8 kb_8 dX12_handles_14 ?_
        refine s_ic_ge (tgt := 78) dX12_handles_16 (by decide) (fun q3 => ?_) (fun q3 => ?_)
        · skip
          exact s_loc [0, 1, 2] rfl (hk v1 v2 h)
        · skip
          refine s_aload0 0 rfl dX12_handles_19 ?_
          refine s_viI [] (fun l b hb hl => cf_X12_flagUp G l  h b hb hl) me_X12_flagUp vi_RX12_296 rfl rfl rfl rfl rfl dX12_handles_20 (fun r4 => ?_)
          refine s_km1 dX12_handles_23 ?_
          refine s_ic_eq (tgt := 78) dX12_handles_24 (by decide) (fun q5 => ?_) (fun q5 => ?_)
          · skip
            exact s_loc [0, 1, 2] rfl (hk v1 v2 r4.2)
          · skip
            refine s_aload0 0 rfl dX12_handles_27 ?_
            refine s_viI [] (fun l b hb hl => cf_X12_flagUp G l  r4.2 b hb hl) me_X12_flagUp vi_RX12_296 rfl rfl rfl rfl rfl dX12_handles_28 (fun r6 => ?_)
            refine s_istore3 [(3, .inl r6.1), (0, .inr (.inr (12, 0))), (1, .inl v1), (2, .inl v2)] rfl rfl dX12_handles_31 ?_
            refine s_aload0 1 rfl dX12_handles_32 ?_
            refine s_gi gI_RX12_216 dX12_handles_33 ?_
            refine s_istorew [(4, .inl (r6.2.1 12 0 38)), (3, .inl r6.1), (0, .inr (.inr (12, 0))), (1, .inl v1), (2, .inl v2)] rfl rfl dX12_handles_36 ?_
            refine s_aload0 2 rfl dX12_handles_38 ?_
            refine s_k1 dX12_handles_39 ?_
            refine s_aload0 2 rfl dX12_handles_40 ?_
            refine s_gr (gR_RX12_35 0) dX12_handles_41 ?_
            refine s_iload3 1 rfl dX12_handles_44 ?_
            refine s_chk (fun q7 => ?_)
            refine s_ial aT_53 q7 dX12_handles_45 ?_
            refine s_viI [.inl 1, .inl (r6.2.1 53 0 r6.1.toNatClampNeg)] (fun l b hb hl => cf_X12_runs_1 G l 1 (r6.2.1 53 0 r6.1.toNatClampNeg) r6.2 b hb hl) me_X12_runs vi_RX12_300 rfl rfl rfl rfl rfl dX12_handles_46 (fun r8 => ?_)
            refine s_istorew [(5, .inl r8.1), (4, .inl (r6.2.1 12 0 38)), (3, .inl r6.1), (0, .inr (.inr (12, 0))), (1, .inl v1), (2, .inl v2)] rfl rfl dX12_handles_49 ?_
            refine s_aload0 3 rfl dX12_handles_51 ?_
            refine s_iload 1 rfl dX12_handles_52 ?_
            refine s_pi pI_RX12_216 dX12_handles_54 ?_
            refine s_aload0 3 rfl dX12_handles_57 ?_
            refine s_k0 dX12_handles_58 ?_
            refine s_let (fun h9 => ?_)
            refine s_pz pI_RX12_292 (Or.inl rfl) dX12_handles_59 ?_
            refine s_aload0 3 rfl dX12_handles_62 ?_
            refine s_dup rfl dX12_handles_63 ?_
            refine s_let (fun h10 => ?_)
            refine s_gi gI_RX12_213 dX12_handles_64 ?_
            refine s_k1 dX12_handles_67 ?_
            refine s_iadd dX12_handles_68 ?_
            refine s_pi pI_RX12_213 dX12_handles_69 ?_
            refine s_iincw 1 (by decide) 5 [(2, .inl (v2 + 1)), (5, .inl r8.1), (4, .inl (r6.2.1 12 0 38)), (3, .inl r6.1), (0, .inr (.inr (12, 0))), (1, .inl v1)] rfl rfl rfl dX12_handles_72 ?_
            refine s_goto (tgt := 2) dX12_handles_75 (by decide) ?_
            exact s_loc [4, 5, 0] rfl (ih v1 (v2 + 1) (uI h10 12 0 37 ((h10.1 12 0 37) + 1)))
set_option maxRecDepth 20000 in
theorem sf_X12_handles_2 (G : mG) (X : mX) (x1 : Int32)  (h : mH) : Sim G X cX12_handles 6 RX12 none (mRoom 7 165) eV (f_X12_handles_2 x1 h) 0 [(0, .inr (.inr (12, 0))), (1, .inl x1)] [] h := by
  unfold f_X12_handles_2
  refine s_k0 dX12_handles_0 ?_
  refine s_istore2 [(2, .inl 0), (0, .inr (.inr (12, 0))), (1, .inl x1)] rfl rfl dX12_handles_1 ?_
  refine s_loc [1, 2, 0] rfl ?_
  refine sf_X12_handles_2_2 G X  _ (fun u11 u12 h13 => ?_) mFu x1 0 h
  · skip
    exact s_return rfl rfl dX12_handles_78
set_option maxRecDepth 20000 in
theorem cf_X12_handles_2 (G : mG) (l : Launch) (x1 : Int32)  (h : mH) (b : mH) (hb : f_X12_handles_2 x1 h = some b) (hl : ∀ v ∈ ([.inr (.inr (12, 0)), .inl x1] : List mV), mLi v) : mMet G l yX12_handles cX12_handles 6 none (mRoom 7 165) [.inr (.inr (12, 0)), .inl x1] h (eV b) :=
  mMet.of (y := yX12_handles) (as := [.inr (.inr (12, 0)), .inl x1]) (by decide +kernel) (Nat.le_of_ble_eq_true rfl) (fun X => sf_X12_handles_2 G X x1  h) hl b hb
