-- DriverBook.bare(I)I
def f_X11_bare (x1 : Int32) (h : mH) : Option (Int32 × mH) :=
  (f_X1_hasAct x1 h).bind fun r1 =>
  if r1.1 = 0 then
    some ((-1), r1.2)
  else
    (f_X1_dropSteps x1 r1.2).bind fun r3 =>
    some (r3.1, r3.2)
set_option maxRecDepth 20000 in
theorem sf_X11_bare (G : mG) (X : mX) (x1 : Int32)  (h : mH) : Sim G X cX11_bare 2 RX11 (some .int) (mRoom 1 22) eI (f_X11_bare x1 h) 0 [(0, .inr (.inr (11, 0))), (1, .inl x1)] [] h := by
  unfold f_X11_bare
  refine s_aload0 0 rfl dX11_bare_0 ?_
  refine s_gr (gR_RX11_10 0) dX11_bare_1 ?_
  refine s_iload1 1 rfl dX11_bare_4 ?_
  refine s_viI [.inl x1] (fun l b hb hl => cf_X1_hasAct G l x1 h b hb hl) me_X1_hasAct vi_RX11_125 rfl rfl rfl rfl rfl dX11_bare_5 (fun r1 => ?_)
  refine s_if_ne (tgt := 13) dX11_bare_8 (by decide) (fun q2 => ?_) (fun q2 => ?_)
  · skip
    refine s_aload0 0 rfl dX11_bare_13 ?_
    refine s_gr (gR_RX11_10 0) dX11_bare_14 ?_
    refine s_iload1 1 rfl dX11_bare_17 ?_
    refine s_viI [.inl x1] (fun l b hb hl => cf_X1_dropSteps G l x1 r1.2 b hb hl) me_X1_dropSteps vi_RX11_147 rfl rfl rfl rfl rfl dX11_bare_18 (fun r3 => ?_)
    exact s_ireturn rfl rfl dX11_bare_21
  · skip
    refine s_km1 dX11_bare_11 ?_
    exact s_ireturn rfl rfl dX11_bare_12
set_option maxRecDepth 20000 in
theorem cf_X11_bare (G : mG) (l : Launch) (x1 : Int32)  (h : mH) (b : Int32 × mH) (hb : f_X11_bare x1 h = some b) (hl : ∀ v ∈ ([.inr (.inr (11, 0)), .inl x1] : List mV), mLi v) : mMet G l yX11_bare cX11_bare 2 (some .int) (mRoom 1 22) [.inr (.inr (11, 0)), .inl x1] h (eI b) :=
  mMet.of (y := yX11_bare) (as := [.inr (.inr (11, 0)), .inl x1]) (by decide +kernel) (Nat.le_of_ble_eq_true rfl) (fun X => sf_X11_bare G X x1  h) hl b hb
-- DriverBook.handler(II)I
def f_X11_handler (x1 : Int32) (x2 : Int32) (h : mH) : Option (Int32 × mH) :=
  (f_X1_hasField x1 h).bind fun r1 =>
  if r1.1 = 0 then
    some ((-1), r1.2)
  else
    if x2 = (-1) then
      if mIn x1 24 = true then
      if (r1.2.1 6 x1.toNatClampNeg 3) = 2 then
        (f_X1_changeHandler x1 x2 r1.2).bind fun r6 =>
        some (r6.1, r6.2)
      else
        some ((-4), r1.2)
      else none
    else
      (f_X1_hasAct x2 r1.2).bind fun r7 =>
      if r7.1 = 0 then
        some ((-1), r7.2)
      else
        if mIn x1 24 = true then
        if (r7.2.1 6 x1.toNatClampNeg 3) = 2 then
          (f_X1_changeHandler x1 x2 r7.2).bind fun r11 =>
          some (r11.1, r11.2)
        else
          some ((-4), r7.2)
        else none
set_option maxRecDepth 20000 in
theorem sf_X11_handler (G : mG) (X : mX) (x1 : Int32) (x2 : Int32)  (h : mH) : Sim G X cX11_handler 3 RX11 (some .int) (mRoom 1 23) eI (f_X11_handler x1 x2 h) 0 [(0, .inr (.inr (11, 0))), (1, .inl x1), (2, .inl x2)] [] h := by
  unfold f_X11_handler
  refine s_aload0 0 rfl dX11_handler_0 ?_
  refine s_gr (gR_RX11_10 0) dX11_handler_1 ?_
  refine s_iload1 1 rfl dX11_handler_4 ?_
  refine s_viI [.inl x1] (fun l b hb hl => cf_X1_hasField G l x1 h b hb hl) me_X1_hasField vi_RX11_92 rfl rfl rfl rfl rfl dX11_handler_5 (fun r1 => ?_)
  refine s_if_eq (tgt := 27) dX11_handler_8 (by decide) (fun q2 => ?_) (fun q2 => ?_)
  · skip
    refine s_km1 dX11_handler_27 ?_
    exact s_ireturn rfl rfl dX11_handler_28
  · skip
    refine s_iload2 2 rfl dX11_handler_11 ?_
    refine s_km1 dX11_handler_12 ?_
    refine s_ic_eq (tgt := 29) dX11_handler_13 (by decide) (fun q3 => ?_) (fun q3 => ?_)
    · skip
      refine s_aload0 0 rfl dX11_handler_29 ?_
      refine s_gr (gR_RX11_10 0) dX11_handler_30 ?_
      refine s_gr (gR_RX11_95 0) dX11_handler_33 ?_
      refine s_iload1 1 rfl dX11_handler_36 ?_
      refine s_chk (fun q4 => ?_)
      refine s_aal (aR_24 0 x1) q4 dX11_handler_37 ?_
      refine s_gi gI_RX11_99 dX11_handler_38 ?_
      refine s_k2 dX11_handler_41 ?_
      refine s_ic_eq (tgt := 48) dX11_handler_42 (by decide) (fun q5 => ?_) (fun q5 => ?_)
      · skip
        refine s_aload0 0 rfl dX11_handler_48 ?_
        refine s_gr (gR_RX11_10 0) dX11_handler_49 ?_
        refine s_iload1 1 rfl dX11_handler_52 ?_
        refine s_iload2 2 rfl dX11_handler_53 ?_
        refine s_viI [.inl x1, .inl x2] (fun l b hb hl => cf_X1_changeHandler G l x1 x2 r1.2 b hb hl) me_X1_changeHandler vi_RX11_150 rfl rfl rfl rfl rfl dX11_handler_54 (fun r6 => ?_)
        exact s_ireturn rfl rfl dX11_handler_57
      · skip
        refine s_bip (-4) kb_m4 dX11_handler_45 ?_
        exact s_ireturn rfl rfl dX11_handler_47
    · skip
      refine s_aload0 0 rfl dX11_handler_16 ?_
      refine s_gr (gR_RX11_10 0) dX11_handler_17 ?_
      refine s_iload2 2 rfl dX11_handler_20 ?_
      refine s_viI [.inl x2] (fun l b hb hl => cf_X1_hasAct G l x2 r1.2 b hb hl) me_X1_hasAct vi_RX11_125 rfl rfl rfl rfl rfl dX11_handler_21 (fun r7 => ?_)
      refine s_if_ne (tgt := 29) dX11_handler_24 (by decide) (fun q8 => ?_) (fun q8 => ?_)
      · skip
        refine s_aload0 0 rfl dX11_handler_29 ?_
        refine s_gr (gR_RX11_10 0) dX11_handler_30 ?_
        refine s_gr (gR_RX11_95 0) dX11_handler_33 ?_
        refine s_iload1 1 rfl dX11_handler_36 ?_
        refine s_chk (fun q9 => ?_)
        refine s_aal (aR_24 0 x1) q9 dX11_handler_37 ?_
        refine s_gi gI_RX11_99 dX11_handler_38 ?_
        refine s_k2 dX11_handler_41 ?_
        refine s_ic_eq (tgt := 48) dX11_handler_42 (by decide) (fun q10 => ?_) (fun q10 => ?_)
        · skip
          refine s_aload0 0 rfl dX11_handler_48 ?_
          refine s_gr (gR_RX11_10 0) dX11_handler_49 ?_
          refine s_iload1 1 rfl dX11_handler_52 ?_
          refine s_iload2 2 rfl dX11_handler_53 ?_
          refine s_viI [.inl x1, .inl x2] (fun l b hb hl => cf_X1_changeHandler G l x1 x2 r7.2 b hb hl) me_X1_changeHandler vi_RX11_150 rfl rfl rfl rfl rfl dX11_handler_54 (fun r11 => ?_)
          exact s_ireturn rfl rfl dX11_handler_57
        · skip
          refine s_bip (-4) kb_m4 dX11_handler_45 ?_
          exact s_ireturn rfl rfl dX11_handler_47
      · skip
        refine s_km1 dX11_handler_27 ?_
        exact s_ireturn rfl rfl dX11_handler_28
set_option maxRecDepth 20000 in
theorem cf_X11_handler (G : mG) (l : Launch) (x1 : Int32) (x2 : Int32)  (h : mH) (b : Int32 × mH) (hb : f_X11_handler x1 x2 h = some b) (hl : ∀ v ∈ ([.inr (.inr (11, 0)), .inl x1, .inl x2] : List mV), mLi v) : mMet G l yX11_handler cX11_handler 3 (some .int) (mRoom 1 23) [.inr (.inr (11, 0)), .inl x1, .inl x2] h (eI b) :=
  mMet.of (y := yX11_handler) (as := [.inr (.inr (11, 0)), .inl x1, .inl x2]) (by decide +kernel) (Nat.le_of_ble_eq_true rfl) (fun X => sf_X11_handler G X x1 x2  h) hl b hb
-- DriverBook.locks(I)I
def f_X11_locks (x1 : Int32) (h : mH) : Option (Int32 × mH) :=
  if x1 = 0 then
    (f_X1_changeLocks x1 h).bind fun r2 =>
    some (r2.1, r2.2)
  else
    if x1 = 1 then
      (f_X1_changeLocks x1 h).bind fun r4 =>
      some (r4.1, r4.2)
    else
      some ((-1), h)
set_option maxRecDepth 20000 in
theorem sf_X11_locks (G : mG) (X : mX) (x1 : Int32)  (h : mH) : Sim G X cX11_locks 2 RX11 (some .int) (mRoom 1 22) eI (f_X11_locks x1 h) 0 [(0, .inr (.inr (11, 0))), (1, .inl x1)] [] h := by
  unfold f_X11_locks
  refine s_iload1 1 rfl dX11_locks_0 ?_
  refine s_if_eq (tgt := 11) dX11_locks_1 (by decide) (fun q1 => ?_) (fun q1 => ?_)
  · skip
    refine s_aload0 0 rfl dX11_locks_11 ?_
    refine s_gr (gR_RX11_10 0) dX11_locks_12 ?_
    refine s_iload1 1 rfl dX11_locks_15 ?_
    refine s_viI [.inl x1] (fun l b hb hl => cf_X1_changeLocks G l x1 h b hb hl) me_X1_changeLocks vi_RX11_153 rfl rfl rfl rfl rfl dX11_locks_16 (fun r2 => ?_)
    exact s_ireturn rfl rfl dX11_locks_19
  · skip
    refine s_iload1 1 rfl dX11_locks_4 ?_
    refine s_k1 dX11_locks_5 ?_
    refine s_ic_eq (tgt := 11) dX11_locks_6 (by decide) (fun q3 => ?_) (fun q3 => ?_)
    · skip
      refine s_aload0 0 rfl dX11_locks_11 ?_
      refine s_gr (gR_RX11_10 0) dX11_locks_12 ?_
      refine s_iload1 1 rfl dX11_locks_15 ?_
      refine s_viI [.inl x1] (fun l b hb hl => cf_X1_changeLocks G l x1 h b hb hl) me_X1_changeLocks vi_RX11_153 rfl rfl rfl rfl rfl dX11_locks_16 (fun r4 => ?_)
      exact s_ireturn rfl rfl dX11_locks_19
    · skip
      refine s_km1 dX11_locks_9 ?_
      exact s_ireturn rfl rfl dX11_locks_10
set_option maxRecDepth 20000 in
theorem cf_X11_locks (G : mG) (l : Launch) (x1 : Int32)  (h : mH) (b : Int32 × mH) (hb : f_X11_locks x1 h = some b) (hl : ∀ v ∈ ([.inr (.inr (11, 0)), .inl x1] : List mV), mLi v) : mMet G l yX11_locks cX11_locks 2 (some .int) (mRoom 1 22) [.inr (.inr (11, 0)), .inl x1] h (eI b) :=
  mMet.of (y := yX11_locks) (as := [.inr (.inr (11, 0)), .inl x1]) (by decide +kernel) (Nat.le_of_ble_eq_true rfl) (fun X => sf_X11_locks G X x1  h) hl b hb
-- DriverBook.code(I)I
def f_X11_code (x1 : Int32) (h : mH) : Option (Int32 × mH) :=
  (f_X1_hasAct x1 h).bind fun r1 =>
  if r1.1 = 0 then
    some ((-1), r1.2)
  else
    (f_X1_makeCode  r1.2).bind fun r3 =>
    if mIn x1 6 = true then
    some (r3.1 3 x1.toNatClampNeg 1, r3)
    else none
set_option maxRecDepth 20000 in
theorem sf_X11_code (G : mG) (X : mX) (x1 : Int32)  (h : mH) : Sim G X cX11_code 2 RX11 (some .int) (mRoom 6 132) eI (f_X11_code x1 h) 0 [(0, .inr (.inr (11, 0))), (1, .inl x1)] [] h := by
  unfold f_X11_code
  refine s_aload0 0 rfl dX11_code_0 ?_
  refine s_gr (gR_RX11_10 0) dX11_code_1 ?_
  refine s_iload1 1 rfl dX11_code_4 ?_
  refine s_viI [.inl x1] (fun l b hb hl => cf_X1_hasAct G l x1 h b hb hl) me_X1_hasAct vi_RX11_125 rfl rfl rfl rfl rfl dX11_code_5 (fun r1 => ?_)
  refine s_if_ne (tgt := 13) dX11_code_8 (by decide) (fun q2 => ?_) (fun q2 => ?_)
  · skip
    refine s_aload0 0 rfl dX11_code_13 ?_
    refine s_gr (gR_RX11_10 0) dX11_code_14 ?_
    refine s_viV [] (fun l b hb hl => cf_X1_makeCode G l  r1.2 b hb hl) me_X1_makeCode vi_RX11_156 rfl rfl rfl rfl rfl dX11_code_17 (fun r3 => ?_)
    refine s_aload0 0 rfl dX11_code_20 ?_
    refine s_gr (gR_RX11_10 0) dX11_code_21 ?_
    refine s_gr (gR_RX11_137 0) dX11_code_24 ?_
    refine s_iload1 1 rfl dX11_code_27 ?_
    refine s_chk (fun q4 => ?_)
    refine s_aal (aR_26 0 x1) q4 dX11_code_28 ?_
    refine s_gr (gR_RX11_159 x1.toNatClampNeg) dX11_code_29 ?_
    refine s_gi gI_RX11_163 dX11_code_32 ?_
    exact s_ireturn rfl rfl dX11_code_35
  · skip
    refine s_km1 dX11_code_11 ?_
    exact s_ireturn rfl rfl dX11_code_12
set_option maxRecDepth 20000 in
theorem cf_X11_code (G : mG) (l : Launch) (x1 : Int32)  (h : mH) (b : Int32 × mH) (hb : f_X11_code x1 h = some b) (hl : ∀ v ∈ ([.inr (.inr (11, 0)), .inl x1] : List mV), mLi v) : mMet G l yX11_code cX11_code 2 (some .int) (mRoom 6 132) [.inr (.inr (11, 0)), .inl x1] h (eI b) :=
  mMet.of (y := yX11_code) (as := [.inr (.inr (11, 0)), .inl x1]) (by decide +kernel) (Nat.le_of_ble_eq_true rfl) (fun X => sf_X11_code G X x1  h) hl b hb
-- DriverBook.op(III)I
def f_X11_op (x1 : Int32) (x2 : Int32) (x3 : Int32) (h : mH) : Option (Int32 × mH) :=
  (f_X1_hasAct x1 h).bind fun r1 =>
  if r1.1 = 0 then
    some ((-1), r1.2)
  else
    if x3 < 0 then
      some ((-1), r1.2)
    else
      if x3 < 6 then
        (f_X1_makeCode  r1.2).bind fun r5 =>
        if mIn x1 6 = true then
        if x2 < 0 then
          some ((-1), r5)
        else
          if x2 < (r5.1 3 x1.toNatClampNeg 1) then
            (f_X3_part x1.toNatClampNeg x2 x3 r5).bind fun r9 =>
            some (r9.1, r9.2)
          else
            some ((-1), r5)
        else none
      else
        some ((-1), r1.2)
set_option maxRecDepth 20000 in
theorem sf_X11_op (G : mG) (X : mX) (x1 : Int32) (x2 : Int32) (x3 : Int32)  (h : mH) : Sim G X cX11_op 5 RX11 (some .int) (mRoom 6 132) eI (f_X11_op x1 x2 x3 h) 0 [(0, .inr (.inr (11, 0))), (1, .inl x1), (2, .inl x2), (3, .inl x3)] [] h := by
  unfold f_X11_op
  refine s_aload0 0 rfl dX11_op_0 ?_
  refine s_gr (gR_RX11_10 0) dX11_op_1 ?_
  refine s_iload1 1 rfl dX11_op_4 ?_
  refine s_viI [.inl x1] (fun l b hb hl => cf_X1_hasAct G l x1 h b hb hl) me_X1_hasAct vi_RX11_125 rfl rfl rfl rfl rfl dX11_op_5 (fun r1 => ?_)
  refine s_if_eq (tgt := 21) dX11_op_8 (by decide) (fun q2 => ?_) (fun q2 => ?_)
  · skip
    refine s_km1 dX11_op_21 ?_
    exact s_ireturn rfl rfl dX11_op_22
  · skip
    refine s_iload3 3 rfl dX11_op_11 ?_
    refine s_if_lt (tgt := 21) dX11_op_12 (by decide) (fun q3 => ?_) (fun q3 => ?_)
    · skip
      refine s_km1 dX11_op_21 ?_
      exact s_ireturn rfl rfl dX11_op_22
    · skip
      refine s_iload3 3 rfl dX11_op_15 ?_
      refine s_bip 6 kb_6 dX11_op_16 ?_
      refine s_ic_lt (tgt := 23) dX11_op_18 (by decide) (fun q4 => ?_) (fun q4 => ?_)
      · skip
        refine s_aload0 0 rfl dX11_op_23 ?_
        refine s_gr (gR_RX11_10 0) dX11_op_24 ?_
        refine s_viV [] (fun l b hb hl => cf_X1_makeCode G l  r1.2 b hb hl) me_X1_makeCode vi_RX11_156 rfl rfl rfl rfl rfl dX11_op_27 (fun r5 => ?_)
        refine s_aload0 0 rfl dX11_op_30 ?_
        refine s_gr (gR_RX11_10 0) dX11_op_31 ?_
        refine s_gr (gR_RX11_137 0) dX11_op_34 ?_
        refine s_iload1 1 rfl dX11_op_37 ?_
        refine s_chk (fun q6 => ?_)
        refine s_aal (aR_26 0 x1) q6 dX11_op_38 ?_
        refine s_gr (gR_RX11_159 x1.toNatClampNeg) dX11_op_39 ?_
        refine s_astorew [(4, .inr (.inr (3, x1.toNatClampNeg))), (0, .inr (.inr (11, 0))), (1, .inl x1), (2, .inl x2), (3, .inl x3)] rfl rfl dX11_op_42 ?_
        refine s_iload2 3 rfl dX11_op_44 ?_
        refine s_if_lt (tgt := 67) dX11_op_45 (by decide) (fun q7 => ?_) (fun q7 => ?_)
        · skip
          refine s_km1 dX11_op_67 ?_
          exact s_ireturn rfl rfl dX11_op_68
        · skip
          refine s_iload2 3 rfl dX11_op_48 ?_
          refine s_aload 0 rfl dX11_op_49 ?_
          refine s_gi gI_RX11_163 dX11_op_51 ?_
          refine s_ic_ge (tgt := 67) dX11_op_54 (by decide) (fun q8 => ?_) (fun q8 => ?_)
          · skip
            refine s_km1 dX11_op_67 ?_
            exact s_ireturn rfl rfl dX11_op_68
          · skip
            refine s_aload 0 rfl dX11_op_57 ?_
            refine s_iload2 3 rfl dX11_op_59 ?_
            refine s_iload3 4 rfl dX11_op_60 ?_
            refine s_viI [.inl x2, .inl x3] (fun l b hb hl => cf_X3_part G l x1.toNatClampNeg x2 x3 r5 b hb hl) me_X3_part vi_RX11_168 rfl rfl rfl rfl rfl dX11_op_61 (fun r9 => ?_)
            refine s_goto (tgt := 68) dX11_op_64 (by decide) ?_
            exact s_ireturn rfl rfl dX11_op_68
      · skip
        refine s_km1 dX11_op_21 ?_
        exact s_ireturn rfl rfl dX11_op_22
set_option maxRecDepth 20000 in
theorem cf_X11_op (G : mG) (l : Launch) (x1 : Int32) (x2 : Int32) (x3 : Int32)  (h : mH) (b : Int32 × mH) (hb : f_X11_op x1 x2 x3 h = some b) (hl : ∀ v ∈ ([.inr (.inr (11, 0)), .inl x1, .inl x2, .inl x3] : List mV), mLi v) : mMet G l yX11_op cX11_op 5 (some .int) (mRoom 6 132) [.inr (.inr (11, 0)), .inl x1, .inl x2, .inl x3] h (eI b) :=
  mMet.of (y := yX11_op) (as := [.inr (.inr (11, 0)), .inl x1, .inl x2, .inl x3]) (by decide +kernel) (Nat.le_of_ble_eq_true rfl) (fun X => sf_X11_op G X x1 x2 x3  h) hl b hb
-- DriverBook.same(II)I
def f_X11_same (x1 : Int32) (x2 : Int32) (h : mH) : Option (Int32 × mH) :=
  (f_X1_hasAct x1 h).bind fun r1 =>
  if r1.1 = 0 then
    some ((-1), r1.2)
  else
    (f_X1_hasAct x2 r1.2).bind fun r3 =>
    if r3.1 = 0 then
      some ((-1), r3.2)
    else
      (f_X1_makeCode  r3.2).bind fun r5 =>
      if mIn x1 6 = true then
      if mIn x2 6 = true then
      (f_X3_isLike x1.toNatClampNeg x2.toNatClampNeg r5).bind fun r8 =>
      if r8.1 = 0 then
        some (0, r8.2)
      else
        some (1, r8.2)
      else none
      else none
set_option maxRecDepth 20000 in
theorem sf_X11_same (G : mG) (X : mX) (x1 : Int32) (x2 : Int32)  (h : mH) : Sim G X cX11_same 3 RX11 (some .int) (mRoom 6 132) eI (f_X11_same x1 x2 h) 0 [(0, .inr (.inr (11, 0))), (1, .inl x1), (2, .inl x2)] [] h := by
  unfold f_X11_same
  refine s_aload0 0 rfl dX11_same_0 ?_
  refine s_gr (gR_RX11_10 0) dX11_same_1 ?_
  refine s_iload1 1 rfl dX11_same_4 ?_
  refine s_viI [.inl x1] (fun l b hb hl => cf_X1_hasAct G l x1 h b hb hl) me_X1_hasAct vi_RX11_125 rfl rfl rfl rfl rfl dX11_same_5 (fun r1 => ?_)
  refine s_if_eq (tgt := 22) dX11_same_8 (by decide) (fun q2 => ?_) (fun q2 => ?_)
  · skip
    refine s_km1 dX11_same_22 ?_
    exact s_ireturn rfl rfl dX11_same_23
  · skip
    refine s_aload0 0 rfl dX11_same_11 ?_
    refine s_gr (gR_RX11_10 0) dX11_same_12 ?_
    refine s_iload2 2 rfl dX11_same_15 ?_
    refine s_viI [.inl x2] (fun l b hb hl => cf_X1_hasAct G l x2 r1.2 b hb hl) me_X1_hasAct vi_RX11_125 rfl rfl rfl rfl rfl dX11_same_16 (fun r3 => ?_)
    refine s_if_ne (tgt := 24) dX11_same_19 (by decide) (fun q4 => ?_) (fun q4 => ?_)
    · skip
      refine s_aload0 0 rfl dX11_same_24 ?_
      refine s_gr (gR_RX11_10 0) dX11_same_25 ?_
      refine s_viV [] (fun l b hb hl => cf_X1_makeCode G l  r3.2 b hb hl) me_X1_makeCode vi_RX11_156 rfl rfl rfl rfl rfl dX11_same_28 (fun r5 => ?_)
      refine s_aload0 0 rfl dX11_same_31 ?_
      refine s_gr (gR_RX11_10 0) dX11_same_32 ?_
      refine s_gr (gR_RX11_137 0) dX11_same_35 ?_
      refine s_iload1 1 rfl dX11_same_38 ?_
      refine s_chk (fun q6 => ?_)
      refine s_aal (aR_26 0 x1) q6 dX11_same_39 ?_
      refine s_gr (gR_RX11_159 x1.toNatClampNeg) dX11_same_40 ?_
      refine s_aload0 0 rfl dX11_same_43 ?_
      refine s_gr (gR_RX11_10 0) dX11_same_44 ?_
      refine s_gr (gR_RX11_137 0) dX11_same_47 ?_
      refine s_iload2 2 rfl dX11_same_50 ?_
      refine s_chk (fun q7 => ?_)
      refine s_aal (aR_26 0 x2) q7 dX11_same_51 ?_
      refine s_gr (gR_RX11_159 x2.toNatClampNeg) dX11_same_52 ?_
      refine s_viI [.inr (.inr (3, x2.toNatClampNeg))] (fun l b hb hl => cf_X3_isLike G l x1.toNatClampNeg x2.toNatClampNeg r5 b hb hl) me_X3_isLike vi_RX11_171 rfl rfl rfl rfl rfl dX11_same_55 (fun r8 => ?_)
      refine s_if_eq (tgt := 65) dX11_same_58 (by decide) (fun q9 => ?_) (fun q9 => ?_)
      · skip
        refine s_k0 dX11_same_65 ?_
        exact s_ireturn rfl rfl dX11_same_66
      · skip
        refine s_k1 dX11_same_61 ?_
        refine s_goto (tgt := 66) dX11_same_62 (by decide) ?_
        exact s_ireturn rfl rfl dX11_same_66
    · skip
      refine s_km1 dX11_same_22 ?_
      exact s_ireturn rfl rfl dX11_same_23
set_option maxRecDepth 20000 in
theorem cf_X11_same (G : mG) (l : Launch) (x1 : Int32) (x2 : Int32)  (h : mH) (b : Int32 × mH) (hb : f_X11_same x1 x2 h = some b) (hl : ∀ v ∈ ([.inr (.inr (11, 0)), .inl x1, .inl x2] : List mV), mLi v) : mMet G l yX11_same cX11_same 3 (some .int) (mRoom 6 132) [.inr (.inr (11, 0)), .inl x1, .inl x2] h (eI b) :=
  mMet.of (y := yX11_same) (as := [.inr (.inr (11, 0)), .inl x1, .inl x2]) (by decide +kernel) (Nat.le_of_ble_eq_true rfl) (fun X => sf_X11_same G X x1 x2  h) hl b hb
-- DriverBook.power()I
def f_X11_power  (h : mH) : Option (Int32 × mH) :=
  (f_X2_powerUp  h).bind fun r1 =>
  some (r1.1 1 0 4, r1)
set_option maxRecDepth 20000 in
theorem sf_X11_power (G : mG) (X : mX)   (h : mH) : Sim G X cX11_power 1 RX11 (some .int) (mRoom 3 66) eI (f_X11_power  h) 0 [(0, .inr (.inr (11, 0)))] [] h := by
  unfold f_X11_power
  refine s_aload0 0 rfl dX11_power_0 ?_
  refine s_gr (gR_RX11_28 0) dX11_power_1 ?_
  refine s_viV [] (fun l b hb hl => cf_X2_powerUp G l  h b hb hl) me_X2_powerUp vi_RX11_68 rfl rfl rfl rfl rfl dX11_power_4 (fun r1 => ?_)
  refine s_aload0 0 rfl dX11_power_7 ?_
  refine s_gr (gR_RX11_10 0) dX11_power_8 ?_
  refine s_gi gI_RX11_85 dX11_power_11 ?_
  exact s_ireturn rfl rfl dX11_power_14
set_option maxRecDepth 20000 in
theorem cf_X11_power (G : mG) (l : Launch)   (h : mH) (b : Int32 × mH) (hb : f_X11_power  h = some b) (hl : ∀ v ∈ ([.inr (.inr (11, 0))] : List mV), mLi v) : mMet G l yX11_power cX11_power 1 (some .int) (mRoom 3 66) [.inr (.inr (11, 0))] h (eI b) :=
  mMet.of (y := yX11_power) (as := [.inr (.inr (11, 0))]) (by decide +kernel) (Nat.le_of_ble_eq_true rfl) (fun X => sf_X11_power G X   h) hl b hb
-- DriverBook.event(III)I
def f_X11_event_j74 (w1 : Int32) (w2 : Int32) (w3 : Int32) (h : mH) : Option (Int32 × mH) :=
  if (lg_cmp w3.toInt64 (h.2 8 0 10)) ≤ 0 then
    some ((-6), h)
  else
    if (h.1 8 0 9) < 16 then
      (f_X8_tellEvent 0 w1 w2 w3.toInt64 h).bind fun r10 =>
      some (r10.1 8 0 9, r10)
    else
      some ((-3), h)
def f_X11_event (x1 : Int32) (x2 : Int32) (x3 : Int32) (h : mH) : Option (Int32 × mH) :=
  (f_X1_hasField x1 h).bind fun r1 =>
  if r1.1 = 0 then
    some ((-1), r1.2)
  else
    if mIn x1 24 = true then
    (f_X11_fits x2 (r1.2.1 6 x1.toNatClampNeg 2) r1.2).bind fun r4 =>
    if r4.1 = 0 then
      some ((-1), r4.2)
    else
      if x3 ≤ 9999 then
        if (r4.2.1 6 x1.toNatClampNeg 3) = 1 then
          f_X11_event_j74 x1 x2 x3 r4.2
        else
          if (r4.2.1 6 x1.toNatClampNeg 3) = 2 then
            f_X11_event_j74 x1 x2 x3 r4.2
          else
            if (r4.2.1 6 x1.toNatClampNeg 3) = 3 then
              f_X11_event_j74 x1 x2 x3 r4.2
            else
              some ((-4), r4.2)
      else
        some ((-1), r4.2)
    else none
set_option maxRecDepth 20000 in
theorem sf_X11_event_j74 (G : mG) (X : mX) (w1 : Int32) (w2 : Int32) (w3 : Int32) (h : mH) : Sim G X cX11_event 5 RX11 (some .int) (mRoom 1 24) eI (f_X11_event_j74 w1 w2 w3 h) 74 [(0, .inr (.inr (11, 0))), (1, .inl w1), (2, .inl w2), (3, .inl w3)] [] h := by
  unfold f_X11_event_j74
  refine s_iload3 3 rfl dX11_event_74 ?_
  refine s_i2l dX11_event_75 ?_
  refine s_aload0 0 rfl dX11_event_76 ?_
  refine s_gr (gR_RX11_19 0) dX11_event_77 ?_
  refine s_gj gJ_RX11_178 dX11_event_80 ?_
  refine s_lcmp dX11_event_83 ?_
  refine s_if_gt (tgt := 90) dX11_event_84 (by decide) (fun q8 => ?_) (fun q8 => ?_)
  · skip
    refine s_aload0 0 rfl dX11_event_90 ?_
    refine s_gr (gR_RX11_19 0) dX11_event_91 ?_
    refine s_gi gI_RX11_182 dX11_event_94 ?_
    refine s_bip 16 kb_16 dX11_event_97 ?_
    refine s_ic_lt (tgt := 105) dX11_event_99 (by decide) (fun q9 => ?_) (fun q9 => ?_)
    · skip
      refine s_aload0 0 rfl dX11_event_105 ?_
      refine s_gr (gR_RX11_19 0) dX11_event_106 ?_
      refine s_iload1 1 rfl dX11_event_109 ?_
      refine s_iload2 2 rfl dX11_event_110 ?_
      refine s_iload3 3 rfl dX11_event_111 ?_
      refine s_i2l dX11_event_112 ?_
      refine s_viV [.inl w1, .inl w2, .inr (.inl w3.toInt64)] (fun l b hb hl => cf_X8_tellEvent G l 0 w1 w2 w3.toInt64 h b hb hl) me_X8_tellEvent vi_RX11_185 rfl rfl rfl rfl rfl dX11_event_113 (fun r10 => ?_)
      refine s_aload0 0 rfl dX11_event_116 ?_
      refine s_gr (gR_RX11_19 0) dX11_event_117 ?_
      refine s_gi gI_RX11_182 dX11_event_120 ?_
      exact s_ireturn rfl rfl dX11_event_123
    · skip
      refine s_bip (-3) kb_m3 dX11_event_102 ?_
      exact s_ireturn rfl rfl dX11_event_104
  · skip
    refine s_bip (-6) kb_m6 dX11_event_87 ?_
    exact s_ireturn rfl rfl dX11_event_89
set_option maxRecDepth 20000 in
theorem sf_X11_event (G : mG) (X : mX) (x1 : Int32) (x2 : Int32) (x3 : Int32)  (h : mH) : Sim G X cX11_event 5 RX11 (some .int) (mRoom 1 24) eI (f_X11_event x1 x2 x3 h) 0 [(0, .inr (.inr (11, 0))), (1, .inl x1), (2, .inl x2), (3, .inl x3)] [] h := by
  unfold f_X11_event
  refine s_aload0 0 rfl dX11_event_0 ?_
  refine s_gr (gR_RX11_10 0) dX11_event_1 ?_
  refine s_iload1 1 rfl dX11_event_4 ?_
  refine s_viI [.inl x1] (fun l b hb hl => cf_X1_hasField G l x1 h b hb hl) me_X1_hasField vi_RX11_92 rfl rfl rfl rfl rfl dX11_event_5 (fun r1 => ?_)
  refine s_if_eq (tgt := 37) dX11_event_8 (by decide) (fun q2 => ?_) (fun q2 => ?_)
  · skip
    refine s_km1 dX11_event_37 ?_
    exact s_ireturn rfl rfl dX11_event_38
  · skip
    refine s_iload2 2 rfl dX11_event_11 ?_
    refine s_aload0 0 rfl dX11_event_12 ?_
    refine s_gr (gR_RX11_10 0) dX11_event_13 ?_
    refine s_gr (gR_RX11_95 0) dX11_event_16 ?_
    refine s_iload1 1 rfl dX11_event_19 ?_
    refine s_chk (fun q3 => ?_)
    refine s_aal (aR_24 0 x1) q3 dX11_event_20 ?_
    refine s_gi gI_RX11_175 dX11_event_21 ?_
    refine s_siI [.inl x2, .inl (r1.2.1 6 x1.toNatClampNeg 2)] (fun l b hb hl => cf_X11_fits G l x2 (r1.2.1 6 x1.toNatClampNeg 2) r1.2 b hb hl) me_X11_fits si_RX11_77 rfl rfl rfl rfl rfl dX11_event_24 (fun r4 => ?_)
    refine s_if_eq (tgt := 37) dX11_event_27 (by decide) (fun q5 => ?_) (fun q5 => ?_)
    · skip
      refine s_km1 dX11_event_37 ?_
      exact s_ireturn rfl rfl dX11_event_38
    · skip
      refine s_iload3 3 rfl dX11_event_30 ?_
      refine s_sip 9999 ks_9999 dX11_event_31 ?_
      refine s_ic_le (tgt := 39) dX11_event_34 (by decide) (fun q6 => ?_) (fun q6 => ?_)
      · skip
        refine s_aload0 0 rfl dX11_event_39 ?_
        refine s_gr (gR_RX11_10 0) dX11_event_40 ?_
        refine s_gr (gR_RX11_95 0) dX11_event_43 ?_
        refine s_iload1 1 rfl dX11_event_46 ?_
        refine s_aal (aR_24 0 x1) q3 dX11_event_47 ?_
        refine s_gi gI_RX11_99 dX11_event_48 ?_
        refine s_istorew [(4, .inl (r4.2.1 6 x1.toNatClampNeg 3)), (0, .inr (.inr (11, 0))), (1, .inl x1), (2, .inl x2), (3, .inl x3)] rfl rfl dX11_event_51 ?_
        refine s_iload 0 rfl dX11_event_53 ?_
        refine s_k1 dX11_event_55 ?_
        refine s_ic_eq (tgt := 74) dX11_event_56 (by decide) (fun q7 => ?_) (fun q7 => ?_)
        · skip
          exact s_loc [1, 2, 3, 4] rfl (sf_X11_event_j74 G X x1 x2 x3 r4.2)
        · skip
          refine s_iload 0 rfl dX11_event_59 ?_
          refine s_k2 dX11_event_61 ?_
          refine s_ic_eq (tgt := 74) dX11_event_62 (by decide) (fun q11 => ?_) (fun q11 => ?_)
          · skip
            exact s_loc [1, 2, 3, 4] rfl (sf_X11_event_j74 G X x1 x2 x3 r4.2)
          · skip
            refine s_iload 0 rfl dX11_event_65 ?_
            refine s_k3 dX11_event_67 ?_
            refine s_ic_eq (tgt := 74) dX11_event_68 (by decide) (fun q12 => ?_) (fun q12 => ?_)
            · skip
              exact s_loc [1, 2, 3, 4] rfl (sf_X11_event_j74 G X x1 x2 x3 r4.2)
            · skip
              refine s_bip (-4) kb_m4 dX11_event_71 ?_
              exact s_ireturn rfl rfl dX11_event_73
      · skip
        refine s_km1 dX11_event_37 ?_
        exact s_ireturn rfl rfl dX11_event_38
set_option maxRecDepth 20000 in
theorem cf_X11_event (G : mG) (l : Launch) (x1 : Int32) (x2 : Int32) (x3 : Int32)  (h : mH) (b : Int32 × mH) (hb : f_X11_event x1 x2 x3 h = some b) (hl : ∀ v ∈ ([.inr (.inr (11, 0)), .inl x1, .inl x2, .inl x3] : List mV), mLi v) : mMet G l yX11_event cX11_event 5 (some .int) (mRoom 1 24) [.inr (.inr (11, 0)), .inl x1, .inl x2, .inl x3] h (eI b) :=
  mMet.of (y := yX11_event) (as := [.inr (.inr (11, 0)), .inl x1, .inl x2, .inl x3]) (by decide +kernel) (Nat.le_of_ble_eq_true rfl) (fun X => sf_X11_event G X x1 x2 x3  h) hl b hb
-- DriverBook.run(I)I
def f_X11_run (x1 : Int32) (h : mH) : Option (Int32 × mH) :=
  (f_X1_hasAct x1 h).bind fun r1 =>
  if r1.1 = 0 then
    some ((-1), r1.2)
  else
    (f_X1_makeCode  r1.2).bind fun r3 =>
    (f_X5_runAct x1 r3).bind fun r4 =>
    if r4.1 = 0 then
      some ((-5), r4.2)
    else
      (f_X11_nearestInt ((r4.2.2 8 0 10) - (r3.2 8 0 10)) r4.2).bind fun r6 =>
      some (r6.1, r6.2)
set_option maxRecDepth 20000 in
theorem sf_X11_run (G : mG) (X : mX) (x1 : Int32)  (h : mH) : Sim G X cX11_run 4 RX11 (some .int) (mRoom 6 144) eI (f_X11_run x1 h) 0 [(0, .inr (.inr (11, 0))), (1, .inl x1)] [] h := by
  unfold f_X11_run
  refine s_aload0 0 rfl dX11_run_0 ?_
  refine s_gr (gR_RX11_10 0) dX11_run_1 ?_
  refine s_iload1 1 rfl dX11_run_4 ?_
  refine s_viI [.inl x1] (fun l b hb hl => cf_X1_hasAct G l x1 h b hb hl) me_X1_hasAct vi_RX11_125 rfl rfl rfl rfl rfl dX11_run_5 (fun r1 => ?_)
  refine s_if_ne (tgt := 13) dX11_run_8 (by decide) (fun q2 => ?_) (fun q2 => ?_)
  · skip
    refine s_aload0 0 rfl dX11_run_13 ?_
    refine s_gr (gR_RX11_10 0) dX11_run_14 ?_
    refine s_viV [] (fun l b hb hl => cf_X1_makeCode G l  r1.2 b hb hl) me_X1_makeCode vi_RX11_156 rfl rfl rfl rfl rfl dX11_run_17 (fun r3 => ?_)
    refine s_aload0 0 rfl dX11_run_20 ?_
    refine s_gr (gR_RX11_19 0) dX11_run_21 ?_
    refine s_gj gJ_RX11_178 dX11_run_24 ?_
    refine s_lstore2 [(2, .inr (.inl (r3.2 8 0 10))), (0, .inr (.inr (11, 0))), (1, .inl x1)] rfl rfl dX11_run_27 ?_
    refine s_aload0 1 rfl dX11_run_28 ?_
    refine s_gr (gR_RX11_37 0) dX11_run_29 ?_
    refine s_iload1 2 rfl dX11_run_32 ?_
    refine s_viI [.inl x1] (fun l b hb hl => cf_X5_runAct G l x1 r3 b hb hl) me_X5_runAct vi_RX11_189 rfl rfl rfl rfl rfl dX11_run_33 (fun r4 => ?_)
    refine s_if_eq (tgt := 54) dX11_run_36 (by decide) (fun q5 => ?_) (fun q5 => ?_)
    · skip
      refine s_bip (-5) kb_m5 dX11_run_54 ?_
      exact s_ireturn rfl rfl dX11_run_56
    · skip
      refine s_aload0 1 rfl dX11_run_39 ?_
      refine s_gr (gR_RX11_19 0) dX11_run_40 ?_
      refine s_gj gJ_RX11_178 dX11_run_43 ?_
      refine s_lload2 0 rfl dX11_run_46 ?_
      refine s_lsub dX11_run_47 ?_
      refine s_siI [.inr (.inl ((r4.2.2 8 0 10) - (r3.2 8 0 10)))] (fun l b hb hl => cf_X11_nearestInt G l ((r4.2.2 8 0 10) - (r3.2 8 0 10)) r4.2 b hb hl) me_X11_nearestInt si_RX11_192 rfl rfl rfl rfl rfl dX11_run_48 (fun r6 => ?_)
      refine s_goto (tgt := 56) dX11_run_51 (by decide) ?_
      exact s_ireturn rfl rfl dX11_run_56
  · skip
    refine s_km1 dX11_run_11 ?_
    exact s_ireturn rfl rfl dX11_run_12
set_option maxRecDepth 20000 in
theorem cf_X11_run (G : mG) (l : Launch) (x1 : Int32)  (h : mH) (b : Int32 × mH) (hb : f_X11_run x1 h = some b) (hl : ∀ v ∈ ([.inr (.inr (11, 0)), .inl x1] : List mV), mLi v) : mMet G l yX11_run cX11_run 4 (some .int) (mRoom 6 144) [.inr (.inr (11, 0)), .inl x1] h (eI b) :=
  mMet.of (y := yX11_run) (as := [.inr (.inr (11, 0)), .inl x1]) (by decide +kernel) (Nat.le_of_ble_eq_true rfl) (fun X => sf_X11_run G X x1  h) hl b hb
-- DriverBook.read(I)I
def f_X11_read (x1 : Int32) (h : mH) : Option (Int32 × mH) :=
  (f_X1_hasRegister x1 h).bind fun r1 =>
  if r1.1 = 0 then
    some ((-1), r1.2)
  else
    (f_X2_readRegister x1 0 r1.2).bind fun r3 =>
    some (r3.1, r3.2)
set_option maxRecDepth 20000 in
theorem sf_X11_read (G : mG) (X : mX) (x1 : Int32)  (h : mH) : Sim G X cX11_read 2 RX11 (some .int) (mRoom 3 71) eI (f_X11_read x1 h) 0 [(0, .inr (.inr (11, 0))), (1, .inl x1)] [] h := by
  unfold f_X11_read
  refine s_aload0 0 rfl dX11_read_0 ?_
  refine s_gr (gR_RX11_10 0) dX11_read_1 ?_
  refine s_iload1 1 rfl dX11_read_4 ?_
  refine s_viI [.inl x1] (fun l b hb hl => cf_X1_hasRegister G l x1 h b hb hl) me_X1_hasRegister vi_RX11_71 rfl rfl rfl rfl rfl dX11_read_5 (fun r1 => ?_)
  refine s_if_eq (tgt := 23) dX11_read_8 (by decide) (fun q2 => ?_) (fun q2 => ?_)
  · skip
    refine s_km1 dX11_read_23 ?_
    exact s_ireturn rfl rfl dX11_read_24
  · skip
    refine s_aload0 0 rfl dX11_read_11 ?_
    refine s_gr (gR_RX11_28 0) dX11_read_12 ?_
    refine s_iload1 1 rfl dX11_read_15 ?_
    refine s_k0 dX11_read_16 ?_
    refine s_viI [.inl x1, .inl 0] (fun l b hb hl => cf_X2_readRegister G l x1 0 r1.2 b hb hl) me_X2_readRegister vi_RX11_196 rfl rfl rfl rfl rfl dX11_read_17 (fun r3 => ?_)
    refine s_goto (tgt := 24) dX11_read_20 (by decide) ?_
    exact s_ireturn rfl rfl dX11_read_24
set_option maxRecDepth 20000 in
theorem cf_X11_read (G : mG) (l : Launch) (x1 : Int32)  (h : mH) (b : Int32 × mH) (hb : f_X11_read x1 h = some b) (hl : ∀ v ∈ ([.inr (.inr (11, 0)), .inl x1] : List mV), mLi v) : mMet G l yX11_read cX11_read 2 (some .int) (mRoom 3 71) [.inr (.inr (11, 0)), .inl x1] h (eI b) :=
  mMet.of (y := yX11_read) (as := [.inr (.inr (11, 0)), .inl x1]) (by decide +kernel) (Nat.le_of_ble_eq_true rfl) (fun X => sf_X11_read G X x1  h) hl b hb
-- DriverBook.write(II)I
def f_X11_write (x1 : Int32) (x2 : Int32) (h : mH) : Option (Int32 × mH) :=
  (f_X1_hasRegister x1 h).bind fun r1 =>
  if r1.1 = 0 then
    some ((-1), r1.2)
  else
    (f_X11_fits x2 16 r1.2).bind fun r3 =>
    if r3.1 = 0 then
      some ((-1), r3.2)
    else
      (f_X2_writeRegister x1 x2 r3.2).bind fun r5 =>
      (f_X11_nearestInt (r5.2 8 0 10) r5).bind fun r6 =>
      some (r6.1, r6.2)
set_option maxRecDepth 20000 in
theorem sf_X11_write (G : mG) (X : mX) (x1 : Int32) (x2 : Int32)  (h : mH) : Sim G X cX11_write 3 RX11 (some .int) (mRoom 3 85) eI (f_X11_write x1 x2 h) 0 [(0, .inr (.inr (11, 0))), (1, .inl x1), (2, .inl x2)] [] h := by
  unfold f_X11_write
  refine s_aload0 0 rfl dX11_write_0 ?_
  refine s_gr (gR_RX11_10 0) dX11_write_1 ?_
  refine s_iload1 1 rfl dX11_write_4 ?_
  refine s_viI [.inl x1] (fun l b hb hl => cf_X1_hasRegister G l x1 h b hb hl) me_X1_hasRegister vi_RX11_71 rfl rfl rfl rfl rfl dX11_write_5 (fun r1 => ?_)
  refine s_if_eq (tgt := 20) dX11_write_8 (by decide) (fun q2 => ?_) (fun q2 => ?_)
  · skip
    refine s_km1 dX11_write_20 ?_
    exact s_ireturn rfl rfl dX11_write_21
  · skip
    refine s_iload2 2 rfl dX11_write_11 ?_
    refine s_bip 16 kb_16 dX11_write_12 ?_
    refine s_siI [.inl x2, .inl 16] (fun l b hb hl => cf_X11_fits G l x2 16 r1.2 b hb hl) me_X11_fits si_RX11_77 rfl rfl rfl rfl rfl dX11_write_14 (fun r3 => ?_)
    refine s_if_ne (tgt := 22) dX11_write_17 (by decide) (fun q4 => ?_) (fun q4 => ?_)
    · skip
      refine s_aload0 0 rfl dX11_write_22 ?_
      refine s_gr (gR_RX11_28 0) dX11_write_23 ?_
      refine s_iload1 1 rfl dX11_write_26 ?_
      refine s_iload2 2 rfl dX11_write_27 ?_
      refine s_viV [.inl x1, .inl x2] (fun l b hb hl => cf_X2_writeRegister G l x1 x2 r3.2 b hb hl) me_X2_writeRegister vi_RX11_200 rfl rfl rfl rfl rfl dX11_write_28 (fun r5 => ?_)
      refine s_aload0 0 rfl dX11_write_31 ?_
      refine s_gr (gR_RX11_19 0) dX11_write_32 ?_
      refine s_gj gJ_RX11_178 dX11_write_35 ?_
      refine s_siI [.inr (.inl (r5.2 8 0 10))] (fun l b hb hl => cf_X11_nearestInt G l (r5.2 8 0 10) r5 b hb hl) me_X11_nearestInt si_RX11_192 rfl rfl rfl rfl rfl dX11_write_38 (fun r6 => ?_)
      exact s_ireturn rfl rfl dX11_write_41
    · skip
      refine s_km1 dX11_write_20 ?_
      exact s_ireturn rfl rfl dX11_write_21
set_option maxRecDepth 20000 in
theorem cf_X11_write (G : mG) (l : Launch) (x1 : Int32) (x2 : Int32)  (h : mH) (b : Int32 × mH) (hb : f_X11_write x1 x2 h = some b) (hl : ∀ v ∈ ([.inr (.inr (11, 0)), .inl x1, .inl x2] : List mV), mLi v) : mMet G l yX11_write cX11_write 3 (some .int) (mRoom 3 85) [.inr (.inr (11, 0)), .inl x1, .inl x2] h (eI b) :=
  mMet.of (y := yX11_write) (as := [.inr (.inr (11, 0)), .inl x1, .inl x2]) (by decide +kernel) (Nat.le_of_ble_eq_true rfl) (fun X => sf_X11_write G X x1 x2  h) hl b hb
-- DriverBook.wait(I)I
def f_X11_wait_14 (k : Int32 → Int32 → mH → Option (Int32 × mH))  : Nat → Int32 → Int32 → mH → Option (Int32 × mH)
  | 0, _, _, _ => none
  | n + 1, v1, v2, h =>
    if v2 < v1 then
      (f_X2_tick  h).bind fun r4 =>
      f_X11_wait_14 k  n v1 (v2 + 1) r4
    else
      k v1 v2 h
def f_X11_wait (x1 : Int32) (h : mH) : Option (Int32 × mH) :=
  if x1 < 0 then
    some ((-1), h)
  else
    if x1 ≤ 50 then
      f_X11_wait_14 (fun u5 u6 h7 =>
        (f_X11_nearestInt (h7.2 8 0 10) h7).bind fun r8 =>
        some (r8.1, r8.2))  mFu x1 0 h
    else
      some ((-1), h)
set_option maxRecDepth 20000 in
theorem sf_X11_wait_14 (G : mG) (X : mX)   (k : Int32 → Int32 → mH → Option (Int32 × mH)) (hk : ∀ (v1 : Int32) (v2 : Int32) (h : mH), Sim G X cX11_wait 3 RX11 (some .int) (mRoom 2 85) eI (k v1 v2 h) 32 [(0, .inr (.inr (11, 0))), (1, .inl v1), (2, .inl v2)] [] h) (n : Nat) : ∀ (v1 : Int32) (v2 : Int32) (h : mH), Sim G X cX11_wait 3 RX11 (some .int) (mRoom 2 85) eI (f_X11_wait_14 k  n v1 v2 h) 14 [(0, .inr (.inr (11, 0))), (1, .inl v1), (2, .inl v2)] [] h := by
  induction n with
  | zero =>
    intro v1 v2 h
    exact s_none
  | succ n ih =>
    intro v1 v2 h
    unfold f_X11_wait_14
    refine s_iload2 2 rfl dX11_wait_14 ?_
    refine s_iload1 1 rfl dX11_wait_15 ?_
    refine s_ic_ge (tgt := 32) dX11_wait_16 (by decide) (fun q3 => ?_) (fun q3 => ?_)
    · skip
      exact s_loc [0, 1, 2] rfl (hk v1 v2 h)
    · skip
      refine s_aload0 0 rfl dX11_wait_19 ?_
      refine s_gr (gR_RX11_28 0) dX11_wait_20 ?_
      refine s_viV [] (fun l b hb hl => cf_X2_tick G l  h b hb hl) me_X2_tick vi_RX11_204 rfl rfl rfl rfl rfl dX11_wait_23 (fun r4 => ?_)
      refine s_iincw 1 (by decide) 2 [(2, .inl (v2 + 1)), (0, .inr (.inr (11, 0))), (1, .inl v1)] rfl rfl rfl dX11_wait_26 ?_
      refine s_goto (tgt := 14) dX11_wait_29 (by decide) ?_
      exact s_loc [1, 2, 0] rfl (ih v1 (v2 + 1) r4)
set_option maxRecDepth 20000 in
theorem sf_X11_wait (G : mG) (X : mX) (x1 : Int32)  (h : mH) : Sim G X cX11_wait 3 RX11 (some .int) (mRoom 2 85) eI (f_X11_wait x1 h) 0 [(0, .inr (.inr (11, 0))), (1, .inl x1)] [] h := by
  unfold f_X11_wait
  refine s_iload1 1 rfl dX11_wait_0 ?_
  refine s_if_lt (tgt := 10) dX11_wait_1 (by decide) (fun q1 => ?_) (fun q1 => ?_)
  · skip
    refine s_km1 dX11_wait_10 ?_
    exact s_ireturn rfl rfl dX11_wait_11
  · skip
    refine s_iload1 1 rfl dX11_wait_4 ?_
    refine s_bip 50 kb_50 dX11_wait_5 ?_
    refine s_ic_le (tgt := 12) dX11_wait_7 (by decide) (fun q2 => ?_) (fun q2 => ?_)
    · skip
      refine s_k0 dX11_wait_12 ?_
      refine s_istore2 [(2, .inl 0), (0, .inr (.inr (11, 0))), (1, .inl x1)] rfl rfl dX11_wait_13 ?_
      refine s_loc [1, 2, 0] rfl ?_
      refine sf_X11_wait_14 G X  _ (fun u5 u6 h7 => ?_) mFu x1 0 h
      · skip
        refine s_aload0 0 rfl dX11_wait_32 ?_
        refine s_gr (gR_RX11_19 0) dX11_wait_33 ?_
        refine s_gj gJ_RX11_178 dX11_wait_36 ?_
        refine s_siI [.inr (.inl (h7.2 8 0 10))] (fun l b hb hl => cf_X11_nearestInt G l (h7.2 8 0 10) h7 b hb hl) me_X11_nearestInt si_RX11_192 rfl rfl rfl rfl rfl dX11_wait_39 (fun r8 => ?_)
        exact s_ireturn rfl rfl dX11_wait_42
    · skip
      refine s_km1 dX11_wait_10 ?_
      exact s_ireturn rfl rfl dX11_wait_11
set_option maxRecDepth 20000 in
theorem cf_X11_wait (G : mG) (l : Launch) (x1 : Int32)  (h : mH) (b : Int32 × mH) (hb : f_X11_wait x1 h = some b) (hl : ∀ v ∈ ([.inr (.inr (11, 0)), .inl x1] : List mV), mLi v) : mMet G l yX11_wait cX11_wait 3 (some .int) (mRoom 2 85) [.inr (.inr (11, 0)), .inl x1] h (eI b) :=
  mMet.of (y := yX11_wait) (as := [.inr (.inr (11, 0)), .inl x1]) (by decide +kernel) (Nat.le_of_ble_eq_true rfl) (fun X => sf_X11_wait G X x1  h) hl b hb
-- DriverBook.peek(II)I
def f_X11_peek (x1 : Int32) (x2 : Int32) (h : mH) : Option (Int32 × mH) :=
  (f_X1_hasField x1 h).bind fun r1 =>
  if r1.1 = 0 then
    some ((-1), r1.2)
  else
    if x2 < 0 then
      some ((-1), r1.2)
    else
      if x2 ≤ 3 then
        if mIn x1 24 = true then
        if x2 = 0 then
          some (r1.2.1 33 0 x1.toNatClampNeg, r1.2)
        else
        if x2 = 1 then
          if (r1.2.1 6 x1.toNatClampNeg 3) = 5 then
            some (r1.2.1 34 0 x1.toNatClampNeg, r1.2)
          else
            some ((-4), r1.2)
        else
        if x2 = 2 then
          if (r1.2.1 6 x1.toNatClampNeg 3) = 4 then
            some (r1.2.1 35 0 x1.toNatClampNeg, r1.2)
          else
            some ((-4), r1.2)
        else
          if (r1.2.1 6 x1.toNatClampNeg 3) = 3 then
            some (r1.2.1 36 0 x1.toNatClampNeg, r1.2)
          else
            some ((-4), r1.2)
        else none
      else
        some ((-1), r1.2)
set_option maxRecDepth 20000 in
theorem sf_X11_peek (G : mG) (X : mX) (x1 : Int32) (x2 : Int32)  (h : mH) : Sim G X cX11_peek 4 RX11 (some .int) (mRoom 1 21) eI (f_X11_peek x1 x2 h) 0 [(0, .inr (.inr (11, 0))), (1, .inl x1), (2, .inl x2)] [] h := by
  unfold f_X11_peek
  refine s_aload0 0 rfl dX11_peek_0 ?_
  refine s_gr (gR_RX11_10 0) dX11_peek_1 ?_
  refine s_iload1 1 rfl dX11_peek_4 ?_
  refine s_viI [.inl x1] (fun l b hb hl => cf_X1_hasField G l x1 h b hb hl) me_X1_hasField vi_RX11_92 rfl rfl rfl rfl rfl dX11_peek_5 (fun r1 => ?_)
  refine s_if_eq (tgt := 20) dX11_peek_8 (by decide) (fun q2 => ?_) (fun q2 => ?_)
  · skip
    refine s_km1 dX11_peek_20 ?_
    exact s_ireturn rfl rfl dX11_peek_21
  · skip
    refine s_iload2 2 rfl dX11_peek_11 ?_
    refine s_if_lt (tgt := 20) dX11_peek_12 (by decide) (fun q3 => ?_) (fun q3 => ?_)
    · skip
      refine s_km1 dX11_peek_20 ?_
      exact s_ireturn rfl rfl dX11_peek_21
    · skip
      refine s_iload2 2 rfl dX11_peek_15 ?_
      refine s_k3 dX11_peek_16 ?_
      refine s_ic_le (tgt := 22) dX11_peek_17 (by decide) (fun q4 => ?_) (fun q4 => ?_)
      · skip
        refine s_aload0 0 rfl dX11_peek_22 ?_
        refine s_gr (gR_RX11_10 0) dX11_peek_23 ?_
        refine s_gr (gR_RX11_95 0) dX11_peek_26 ?_
        refine s_iload1 1 rfl dX11_peek_29 ?_
        refine s_chk (fun q5 => ?_)
        refine s_aal (aR_24 0 x1) q5 dX11_peek_30 ?_
        refine s_gi gI_RX11_99 dX11_peek_31 ?_
        refine s_istore3 [(3, .inl (r1.2.1 6 x1.toNatClampNeg 3)), (0, .inr (.inr (11, 0))), (1, .inl x1), (2, .inl x2)] rfl rfl dX11_peek_34 ?_
        refine s_iload2 3 rfl dX11_peek_35 ?_
        refine s_case (fun q6 => ?_) (fun q6 => ?_)
        · skip
          refine s_tabP dX11_peek_36 0 q6 64 (by decide) (by decide) ?_
          refine s_aload0 1 rfl dX11_peek_64 ?_
          refine s_gr (gR_RX11_19 0) dX11_peek_65 ?_
          refine s_gr (gR_RX11_207 0) dX11_peek_68 ?_
          refine s_iload1 2 rfl dX11_peek_71 ?_
          refine s_ial aT_33 q5 dX11_peek_72 ?_
          exact s_ireturn rfl rfl dX11_peek_73
        refine s_case (fun q7 => ?_) (fun q7 => ?_)
        · skip
          refine s_tabP dX11_peek_36 1 q7 74 (by decide) (by decide) ?_
          refine s_iload3 0 rfl dX11_peek_74 ?_
          refine s_k5 dX11_peek_75 ?_
          refine s_ic_ne (tgt := 91) dX11_peek_76 (by decide) (fun q8 => ?_) (fun q8 => ?_)
          · skip
            refine s_bip (-4) kb_m4 dX11_peek_91 ?_
            exact s_ireturn rfl rfl dX11_peek_93
          · skip
            refine s_aload0 1 rfl dX11_peek_79 ?_
            refine s_gr (gR_RX11_19 0) dX11_peek_80 ?_
            refine s_gr (gR_RX11_211 0) dX11_peek_83 ?_
            refine s_iload1 2 rfl dX11_peek_86 ?_
            refine s_ial aT_34 q5 dX11_peek_87 ?_
            refine s_goto (tgt := 93) dX11_peek_88 (by decide) ?_
            exact s_ireturn rfl rfl dX11_peek_93
        refine s_case (fun q9 => ?_) (fun q9 => ?_)
        · skip
          refine s_tabP dX11_peek_36 2 q9 94 (by decide) (by decide) ?_
          refine s_iload3 0 rfl dX11_peek_94 ?_
          refine s_k4 dX11_peek_95 ?_
          refine s_ic_ne (tgt := 111) dX11_peek_96 (by decide) (fun q10 => ?_) (fun q10 => ?_)
          · skip
            refine s_bip (-4) kb_m4 dX11_peek_111 ?_
            exact s_ireturn rfl rfl dX11_peek_113
          · skip
            refine s_aload0 1 rfl dX11_peek_99 ?_
            refine s_gr (gR_RX11_19 0) dX11_peek_100 ?_
            refine s_gr (gR_RX11_214 0) dX11_peek_103 ?_
            refine s_iload1 2 rfl dX11_peek_106 ?_
            refine s_ial aT_35 q5 dX11_peek_107 ?_
            refine s_goto (tgt := 113) dX11_peek_108 (by decide) ?_
            exact s_ireturn rfl rfl dX11_peek_113
        refine s_tabD dX11_peek_36 [0, 1, 2] (by refine List.forall_mem_cons.mpr ⟨q6, ?_⟩; refine List.forall_mem_cons.mpr ⟨q7, ?_⟩; refine List.forall_mem_cons.mpr ⟨q9, ?_⟩; exact fun _ z => absurd z List.not_mem_nil) (by decide) (by decide) 114 (by decide) ?_
        · skip
          refine s_iload3 0 rfl dX11_peek_114 ?_
          refine s_k3 dX11_peek_115 ?_
          refine s_ic_ne (tgt := 131) dX11_peek_116 (by decide) (fun q11 => ?_) (fun q11 => ?_)
          · skip
            refine s_bip (-4) kb_m4 dX11_peek_131 ?_
            exact s_ireturn rfl rfl dX11_peek_133
          · skip
            refine s_aload0 1 rfl dX11_peek_119 ?_
            refine s_gr (gR_RX11_19 0) dX11_peek_120 ?_
            refine s_gr (gR_RX11_217 0) dX11_peek_123 ?_
            refine s_iload1 2 rfl dX11_peek_126 ?_
            refine s_ial aT_36 q5 dX11_peek_127 ?_
            refine s_goto (tgt := 133) dX11_peek_128 (by decide) ?_
            exact s_ireturn rfl rfl dX11_peek_133
      · skip
        refine s_km1 dX11_peek_20 ?_
        exact s_ireturn rfl rfl dX11_peek_21
set_option maxRecDepth 20000 in
theorem cf_X11_peek (G : mG) (l : Launch) (x1 : Int32) (x2 : Int32)  (h : mH) (b : Int32 × mH) (hb : f_X11_peek x1 x2 h = some b) (hl : ∀ v ∈ ([.inr (.inr (11, 0)), .inl x1, .inl x2] : List mV), mLi v) : mMet G l yX11_peek cX11_peek 4 (some .int) (mRoom 1 21) [.inr (.inr (11, 0)), .inl x1, .inl x2] h (eI b) :=
  mMet.of (y := yX11_peek) (as := [.inr (.inr (11, 0)), .inl x1, .inl x2]) (by decide +kernel) (Nat.le_of_ble_eq_true rfl) (fun X => sf_X11_peek G X x1 x2  h) hl b hb
-- DriverBook.shadow(I)I
def f_X11_shadow (x1 : Int32) (h : mH) : Option (Int32 × mH) :=
  (f_X1_hasRegister x1 h).bind fun r1 =>
  if r1.1 = 0 then
    some ((-1), r1.2)
  else
    if mIn x1 8 = true then
    some (r1.2.1 38 0 x1.toNatClampNeg, r1.2)
    else none
set_option maxRecDepth 20000 in
theorem sf_X11_shadow (G : mG) (X : mX) (x1 : Int32)  (h : mH) : Sim G X cX11_shadow 2 RX11 (some .int) (mRoom 1 21) eI (f_X11_shadow x1 h) 0 [(0, .inr (.inr (11, 0))), (1, .inl x1)] [] h := by
  unfold f_X11_shadow
  refine s_aload0 0 rfl dX11_shadow_0 ?_
  refine s_gr (gR_RX11_10 0) dX11_shadow_1 ?_
  refine s_iload1 1 rfl dX11_shadow_4 ?_
  refine s_viI [.inl x1] (fun l b hb hl => cf_X1_hasRegister G l x1 h b hb hl) me_X1_hasRegister vi_RX11_71 rfl rfl rfl rfl rfl dX11_shadow_5 (fun r1 => ?_)
  refine s_if_eq (tgt := 23) dX11_shadow_8 (by decide) (fun q2 => ?_) (fun q2 => ?_)
  · skip
    refine s_km1 dX11_shadow_23 ?_
    exact s_ireturn rfl rfl dX11_shadow_24
  · skip
    refine s_aload0 0 rfl dX11_shadow_11 ?_
    refine s_gr (gR_RX11_19 0) dX11_shadow_12 ?_
    refine s_gr (gR_RX11_220 0) dX11_shadow_15 ?_
    refine s_iload1 1 rfl dX11_shadow_18 ?_
    refine s_chk (fun q3 => ?_)
    refine s_ial aT_38 q3 dX11_shadow_19 ?_
    refine s_goto (tgt := 24) dX11_shadow_20 (by decide) ?_
    exact s_ireturn rfl rfl dX11_shadow_24
set_option maxRecDepth 20000 in
theorem cf_X11_shadow (G : mG) (l : Launch) (x1 : Int32)  (h : mH) (b : Int32 × mH) (hb : f_X11_shadow x1 h = some b) (hl : ∀ v ∈ ([.inr (.inr (11, 0)), .inl x1] : List mV), mLi v) : mMet G l yX11_shadow cX11_shadow 2 (some .int) (mRoom 1 21) [.inr (.inr (11, 0)), .inl x1] h (eI b) :=
  mMet.of (y := yX11_shadow) (as := [.inr (.inr (11, 0)), .inl x1]) (by decide +kernel) (Nat.le_of_ble_eq_true rfl) (fun X => sf_X11_shadow G X x1  h) hl b hb
-- DriverBook.result()I
def f_X11_result  (h : mH) : Option (Int32 × mH) :=
  some (h.1 8 0 11, h)
set_option maxRecDepth 20000 in
theorem sf_X11_result (G : mG) (X : mX)   (h : mH) : Sim G X cX11_result 1 RX11 (some .int) (mRoom 0 0) eI (f_X11_result  h) 0 [(0, .inr (.inr (11, 0)))] [] h := by
  unfold f_X11_result
  refine s_aload0 0 rfl dX11_result_0 ?_
  refine s_gr (gR_RX11_19 0) dX11_result_1 ?_
  refine s_gi gI_RX11_223 dX11_result_4 ?_
  exact s_ireturn rfl rfl dX11_result_7
set_option maxRecDepth 20000 in
theorem cf_X11_result (G : mG) (l : Launch)   (h : mH) (b : Int32 × mH) (hb : f_X11_result  h = some b) (hl : ∀ v ∈ ([.inr (.inr (11, 0))] : List mV), mLi v) : mMet G l yX11_result cX11_result 1 (some .int) (mRoom 0 0) [.inr (.inr (11, 0))] h (eI b) :=
  mMet.of (y := yX11_result) (as := [.inr (.inr (11, 0))]) (by decide +kernel) (Nat.le_of_ble_eq_true rfl) (fun X => sf_X11_result G X   h) hl b hb
-- DriverBook.breaks(I)I
def f_X11_breaks (x1 : Int32) (h : mH) : Option (Int32 × mH) :=
  if x1 = 0 then
    (f_X11_nearestInt (h.2 8 0 13) h).bind fun r2 =>
    some (r2.1, r2.2)
  else
  if x1 = 1 then
    if (lg_cmp (h.2 8 0 13) 0) ≤ 0 then
      some ((-1), h)
    else
      some (h.1 8 0 14, h)
  else
  if x1 = 2 then
    if (lg_cmp (h.2 8 0 13) 0) ≤ 0 then
      some ((-1), h)
    else
      (f_X11_nearestInt (h.2 8 0 15) h).bind fun r7 =>
      some (r7.1, r7.2)
  else
    some ((-1), h)
set_option maxRecDepth 20000 in
theorem sf_X11_breaks (G : mG) (X : mX) (x1 : Int32)  (h : mH) : Sim G X cX11_breaks 2 RX11 (some .int) (mRoom 2 85) eI (f_X11_breaks x1 h) 0 [(0, .inr (.inr (11, 0))), (1, .inl x1)] [] h := by
  unfold f_X11_breaks
  refine s_iload1 1 rfl dX11_breaks_0 ?_
  refine s_case (fun q1 => ?_) (fun q1 => ?_)
  · skip
    refine s_tabP dX11_breaks_1 0 q1 28 (by decide) (by decide) ?_
    refine s_aload0 0 rfl dX11_breaks_28 ?_
    refine s_gr (gR_RX11_19 0) dX11_breaks_29 ?_
    refine s_gj gJ_RX11_226 dX11_breaks_32 ?_
    refine s_siI [.inr (.inl (h.2 8 0 13))] (fun l b hb hl => cf_X11_nearestInt G l (h.2 8 0 13) h b hb hl) me_X11_nearestInt si_RX11_192 rfl rfl rfl rfl rfl dX11_breaks_35 (fun r2 => ?_)
    exact s_ireturn rfl rfl dX11_breaks_38
  refine s_case (fun q3 => ?_) (fun q3 => ?_)
  · skip
    refine s_tabP dX11_breaks_1 1 q3 39 (by decide) (by decide) ?_
    refine s_aload0 0 rfl dX11_breaks_39 ?_
    refine s_gr (gR_RX11_19 0) dX11_breaks_40 ?_
    refine s_gj gJ_RX11_226 dX11_breaks_43 ?_
    refine s_lk0 dX11_breaks_46 ?_
    refine s_lcmp dX11_breaks_47 ?_
    refine s_if_le (tgt := 61) dX11_breaks_48 (by decide) (fun q4 => ?_) (fun q4 => ?_)
    · skip
      refine s_km1 dX11_breaks_61 ?_
      exact s_ireturn rfl rfl dX11_breaks_62
    · skip
      refine s_aload0 0 rfl dX11_breaks_51 ?_
      refine s_gr (gR_RX11_19 0) dX11_breaks_52 ?_
      refine s_gi gI_RX11_229 dX11_breaks_55 ?_
      refine s_goto (tgt := 62) dX11_breaks_58 (by decide) ?_
      exact s_ireturn rfl rfl dX11_breaks_62
  refine s_case (fun q5 => ?_) (fun q5 => ?_)
  · skip
    refine s_tabP dX11_breaks_1 2 q5 63 (by decide) (by decide) ?_
    refine s_aload0 0 rfl dX11_breaks_63 ?_
    refine s_gr (gR_RX11_19 0) dX11_breaks_64 ?_
    refine s_gj gJ_RX11_226 dX11_breaks_67 ?_
    refine s_lk0 dX11_breaks_70 ?_
    refine s_lcmp dX11_breaks_71 ?_
    refine s_if_le (tgt := 88) dX11_breaks_72 (by decide) (fun q6 => ?_) (fun q6 => ?_)
    · skip
      refine s_km1 dX11_breaks_88 ?_
      exact s_ireturn rfl rfl dX11_breaks_89
    · skip
      refine s_aload0 0 rfl dX11_breaks_75 ?_
      refine s_gr (gR_RX11_19 0) dX11_breaks_76 ?_
      refine s_gj gJ_RX11_232 dX11_breaks_79 ?_
      refine s_siI [.inr (.inl (h.2 8 0 15))] (fun l b hb hl => cf_X11_nearestInt G l (h.2 8 0 15) h b hb hl) me_X11_nearestInt si_RX11_192 rfl rfl rfl rfl rfl dX11_breaks_82 (fun r7 => ?_)
      refine s_goto (tgt := 89) dX11_breaks_85 (by decide) ?_
      exact s_ireturn rfl rfl dX11_breaks_89
  refine s_tabD dX11_breaks_1 [0, 1, 2] (by refine List.forall_mem_cons.mpr ⟨q1, ?_⟩; refine List.forall_mem_cons.mpr ⟨q3, ?_⟩; refine List.forall_mem_cons.mpr ⟨q5, ?_⟩; exact fun _ z => absurd z List.not_mem_nil) (by decide) (by decide) 90 (by decide) ?_
  · skip
    refine s_km1 dX11_breaks_90 ?_
    exact s_ireturn rfl rfl dX11_breaks_91
set_option maxRecDepth 20000 in
theorem cf_X11_breaks (G : mG) (l : Launch) (x1 : Int32)  (h : mH) (b : Int32 × mH) (hb : f_X11_breaks x1 h = some b) (hl : ∀ v ∈ ([.inr (.inr (11, 0)), .inl x1] : List mV), mLi v) : mMet G l yX11_breaks cX11_breaks 2 (some .int) (mRoom 2 85) [.inr (.inr (11, 0)), .inl x1] h (eI b) :=
  mMet.of (y := yX11_breaks) (as := [.inr (.inr (11, 0)), .inl x1]) (by decide +kernel) (Nat.le_of_ble_eq_true rfl) (fun X => sf_X11_breaks G X x1  h) hl b hb
-- DriverBook.walk(II)I
def f_X11_walk (x1 : Int32) (x2 : Int32) (h : mH) : Option (Int32 × mH) :=
  (f_X1_hasAct x1 h).bind fun r1 =>
  if r1.1 = 0 then
    some ((-1), r1.2)
  else
    (f_X1_hasField x2 r1.2).bind fun r3 =>
    if r3.1 = 0 then
      some ((-1), r3.2)
    else
      if mIn x2 24 = true then
      if (r3.2.1 6 x2.toNatClampNeg 3) = 2 then
        (f_X1_hasAct (r3.2.1 6 x2.toNatClampNeg 9) r3.2).bind fun r7 =>
        if r7.1 = 0 then
          some ((-4), r7.2)
        else
          (f_X1_makeCode  r7.2).bind fun r9 =>
          (f_X10_keepStart  r9).bind fun r10 =>
          (f_X10_firstUnwell x1 x2 r10).bind fun r11 =>
          (f_X10_restoreStart  r11.2).bind fun r12 =>
          some (r11.1, r12)
      else
        some ((-4), r3.2)
      else none
set_option maxRecDepth 20000 in
theorem sf_X11_walk (G : mG) (X : mX) (x1 : Int32) (x2 : Int32)  (h : mH) : Sim G X cX11_walk 5 RX11 (some .int) (mRoom 7 171) eI (f_X11_walk x1 x2 h) 0 [(0, .inr (.inr (11, 0))), (1, .inl x1), (2, .inl x2)] [] h := by
  unfold f_X11_walk
  refine s_aload0 0 rfl dX11_walk_0 ?_
  refine s_gr (gR_RX11_10 0) dX11_walk_1 ?_
  refine s_iload1 1 rfl dX11_walk_4 ?_
  refine s_viI [.inl x1] (fun l b hb hl => cf_X1_hasAct G l x1 h b hb hl) me_X1_hasAct vi_RX11_125 rfl rfl rfl rfl rfl dX11_walk_5 (fun r1 => ?_)
  refine s_if_eq (tgt := 22) dX11_walk_8 (by decide) (fun q2 => ?_) (fun q2 => ?_)
  · skip
    refine s_km1 dX11_walk_22 ?_
    exact s_ireturn rfl rfl dX11_walk_23
  · skip
    refine s_aload0 0 rfl dX11_walk_11 ?_
    refine s_gr (gR_RX11_10 0) dX11_walk_12 ?_
    refine s_iload2 2 rfl dX11_walk_15 ?_
    refine s_viI [.inl x2] (fun l b hb hl => cf_X1_hasField G l x2 r1.2 b hb hl) me_X1_hasField vi_RX11_92 rfl rfl rfl rfl rfl dX11_walk_16 (fun r3 => ?_)
    refine s_if_ne (tgt := 24) dX11_walk_19 (by decide) (fun q4 => ?_) (fun q4 => ?_)
    · skip
      refine s_aload0 0 rfl dX11_walk_24 ?_
      refine s_gr (gR_RX11_10 0) dX11_walk_25 ?_
      refine s_gr (gR_RX11_95 0) dX11_walk_28 ?_
      refine s_iload2 2 rfl dX11_walk_31 ?_
      refine s_chk (fun q5 => ?_)
      refine s_aal (aR_24 0 x2) q5 dX11_walk_32 ?_
      refine s_astore3 [(3, .inr (.inr (6, x2.toNatClampNeg))), (0, .inr (.inr (11, 0))), (1, .inl x1), (2, .inl x2)] rfl rfl dX11_walk_33 ?_
      refine s_aload3 0 rfl dX11_walk_34 ?_
      refine s_gi gI_RX11_99 dX11_walk_35 ?_
      refine s_k2 dX11_walk_38 ?_
      refine s_ic_ne (tgt := 56) dX11_walk_39 (by decide) (fun q6 => ?_) (fun q6 => ?_)
      · skip
        refine s_bip (-4) kb_m4 dX11_walk_56 ?_
        exact s_ireturn rfl rfl dX11_walk_58
      · skip
        refine s_aload0 1 rfl dX11_walk_42 ?_
        refine s_gr (gR_RX11_10 0) dX11_walk_43 ?_
        refine s_aload3 0 rfl dX11_walk_46 ?_
        refine s_gi gI_RX11_235 dX11_walk_47 ?_
        refine s_viI [.inl (r3.2.1 6 x2.toNatClampNeg 9)] (fun l b hb hl => cf_X1_hasAct G l (r3.2.1 6 x2.toNatClampNeg 9) r3.2 b hb hl) me_X1_hasAct vi_RX11_125 rfl rfl rfl rfl rfl dX11_walk_50 (fun r7 => ?_)
        refine s_if_ne (tgt := 59) dX11_walk_53 (by decide) (fun q8 => ?_) (fun q8 => ?_)
        · skip
          refine s_aload0 1 rfl dX11_walk_59 ?_
          refine s_gr (gR_RX11_10 0) dX11_walk_60 ?_
          refine s_viV [] (fun l b hb hl => cf_X1_makeCode G l  r7.2 b hb hl) me_X1_makeCode vi_RX11_156 rfl rfl rfl rfl rfl dX11_walk_63 (fun r9 => ?_)
          refine s_aload0 1 rfl dX11_walk_66 ?_
          refine s_gr (gR_RX11_46 0) dX11_walk_67 ?_
          refine s_viV [] (fun l b hb hl => cf_X10_keepStart G l  r9 b hb hl) me_X10_keepStart vi_RX11_238 rfl rfl rfl rfl rfl dX11_walk_70 (fun r10 => ?_)
          refine s_aload0 1 rfl dX11_walk_73 ?_
          refine s_gr (gR_RX11_46 0) dX11_walk_74 ?_
          refine s_iload1 2 rfl dX11_walk_77 ?_
          refine s_iload2 3 rfl dX11_walk_78 ?_
          refine s_viI [.inl x1, .inl x2] (fun l b hb hl => cf_X10_firstUnwell G l x1 x2 r10 b hb hl) me_X10_firstUnwell vi_RX11_241 rfl rfl rfl rfl rfl dX11_walk_79 (fun r11 => ?_)
          refine s_istorew [(4, .inl r11.1), (3, .inr (.inr (6, x2.toNatClampNeg))), (0, .inr (.inr (11, 0))), (1, .inl x1), (2, .inl x2)] rfl rfl dX11_walk_82 ?_
          refine s_aload0 2 rfl dX11_walk_84 ?_
          refine s_gr (gR_RX11_46 0) dX11_walk_85 ?_
          refine s_viV [] (fun l b hb hl => cf_X10_restoreStart G l  r11.2 b hb hl) me_X10_restoreStart vi_RX11_244 rfl rfl rfl rfl rfl dX11_walk_88 (fun r12 => ?_)
          refine s_iload 0 rfl dX11_walk_91 ?_
          exact s_ireturn rfl rfl dX11_walk_93
        · skip
          refine s_bip (-4) kb_m4 dX11_walk_56 ?_
          exact s_ireturn rfl rfl dX11_walk_58
    · skip
      refine s_km1 dX11_walk_22 ?_
      exact s_ireturn rfl rfl dX11_walk_23
set_option maxRecDepth 20000 in
theorem cf_X11_walk (G : mG) (l : Launch) (x1 : Int32) (x2 : Int32)  (h : mH) (b : Int32 × mH) (hb : f_X11_walk x1 x2 h = some b) (hl : ∀ v ∈ ([.inr (.inr (11, 0)), .inl x1, .inl x2] : List mV), mLi v) : mMet G l yX11_walk cX11_walk 5 (some .int) (mRoom 7 171) [.inr (.inr (11, 0)), .inl x1, .inl x2] h (eI b) :=
  mMet.of (y := yX11_walk) (as := [.inr (.inr (11, 0)), .inl x1, .inl x2]) (by decide +kernel) (Nat.le_of_ble_eq_true rfl) (fun X => sf_X11_walk G X x1 x2  h) hl b hb
-- DriverBook.why(I)I
def f_X11_why (x1 : Int32) (h : mH) : Option (Int32 × mH) :=
  if (h.1 10 0 6) = 0 then
    some ((-1), h)
  else
    if x1 = 0 then
      some (h.1 10 0 6, h)
    else
    if x1 = 1 then
      some (h.1 10 0 7, h)
    else
      some ((-1), h)
set_option maxRecDepth 20000 in
theorem sf_X11_why (G : mG) (X : mX) (x1 : Int32)  (h : mH) : Sim G X cX11_why 2 RX11 (some .int) (mRoom 0 0) eI (f_X11_why x1 h) 0 [(0, .inr (.inr (11, 0))), (1, .inl x1)] [] h := by
  unfold f_X11_why
  refine s_aload0 0 rfl dX11_why_0 ?_
  refine s_gr (gR_RX11_46 0) dX11_why_1 ?_
  refine s_gi gI_RX11_247 dX11_why_4 ?_
  refine s_if_ne (tgt := 12) dX11_why_7 (by decide) (fun q1 => ?_) (fun q1 => ?_)
  · skip
    refine s_iload1 1 rfl dX11_why_12 ?_
    refine s_case (fun q2 => ?_) (fun q2 => ?_)
    · skip
      refine s_lokP dX11_why_13 0 q2 (by decide) 40 (by decide) ?_
      refine s_aload0 0 rfl dX11_why_40 ?_
      refine s_gr (gR_RX11_46 0) dX11_why_41 ?_
      refine s_gi gI_RX11_247 dX11_why_44 ?_
      exact s_ireturn rfl rfl dX11_why_47
    refine s_case (fun q3 => ?_) (fun q3 => ?_)
    · skip
      refine s_lokP dX11_why_13 1 q3 (by decide) 48 (by decide) ?_
      refine s_aload0 0 rfl dX11_why_48 ?_
      refine s_gr (gR_RX11_46 0) dX11_why_49 ?_
      refine s_gi gI_RX11_250 dX11_why_52 ?_
      exact s_ireturn rfl rfl dX11_why_55
    refine s_lokD dX11_why_13 [0, 1] (by refine List.forall_mem_cons.mpr ⟨q2, ?_⟩; refine List.forall_mem_cons.mpr ⟨q3, ?_⟩; exact fun _ z => absurd z List.not_mem_nil) (by decide) (by decide) 56 (by decide) ?_
    · skip
      refine s_km1 dX11_why_56 ?_
      exact s_ireturn rfl rfl dX11_why_57
  · skip
    refine s_km1 dX11_why_10 ?_
    exact s_ireturn rfl rfl dX11_why_11
set_option maxRecDepth 20000 in
theorem cf_X11_why (G : mG) (l : Launch) (x1 : Int32)  (h : mH) (b : Int32 × mH) (hb : f_X11_why x1 h = some b) (hl : ∀ v ∈ ([.inr (.inr (11, 0)), .inl x1] : List mV), mLi v) : mMet G l yX11_why cX11_why 2 (some .int) (mRoom 0 0) [.inr (.inr (11, 0)), .inl x1] h (eI b) :=
  mMet.of (y := yX11_why) (as := [.inr (.inr (11, 0)), .inl x1]) (by decide +kernel) (Nat.le_of_ble_eq_true rfl) (fun X => sf_X11_why G X x1  h) hl b hb
-- DriverBook.isTape(I)Z
def f_X11_isTape (x0 : Int32) (h : mH) : Option (Int32 × mH) :=
  if x0 < 0 then
    some (0, h)
  else
    if x0 < 6 then
      some (1, h)
    else
      some (0, h)
set_option maxRecDepth 20000 in
theorem sf_X11_isTape (G : mG) (X : mX) (x0 : Int32)  (h : mH) : Sim G X cX11_isTape 1 RX11 (some .boolean) (mRoom 0 0) eI (f_X11_isTape x0 h) 0 [(0, .inl x0)] [] h := by
  unfold f_X11_isTape
  refine s_iload0 0 rfl dX11_isTape_0 ?_
  refine s_if_lt (tgt := 14) dX11_isTape_1 (by decide) (fun q1 => ?_) (fun q1 => ?_)
  · skip
    refine s_k0 dX11_isTape_14 ?_
    exact s_zreturn rfl rfl (Or.inl rfl) dX11_isTape_15
  · skip
    refine s_iload0 0 rfl dX11_isTape_4 ?_
    refine s_bip 6 kb_6 dX11_isTape_5 ?_
    refine s_ic_ge (tgt := 14) dX11_isTape_7 (by decide) (fun q2 => ?_) (fun q2 => ?_)
    · skip
      refine s_k0 dX11_isTape_14 ?_
      exact s_zreturn rfl rfl (Or.inl rfl) dX11_isTape_15
    · skip
      refine s_k1 dX11_isTape_10 ?_
      refine s_goto (tgt := 15) dX11_isTape_11 (by decide) ?_
      exact s_zreturn rfl rfl (Or.inr rfl) dX11_isTape_15
set_option maxRecDepth 20000 in
theorem cf_X11_isTape (G : mG) (l : Launch) (x0 : Int32)  (h : mH) (b : Int32 × mH) (hb : f_X11_isTape x0 h = some b) (hl : ∀ v ∈ ([.inl x0] : List mV), mLi v) : mMet G l yX11_isTape cX11_isTape 1 (some .boolean) (mRoom 0 0) [.inl x0] h (eI b) :=
  mMet.of (y := yX11_isTape) (as := [.inl x0]) (by decide +kernel) (Nat.le_of_ble_eq_true rfl) (fun X => sf_X11_isTape G X x0  h) hl b hb
-- DriverBook.hostRefuses(I)I
def f_X11_hostRefuses (x1 : Int32) (h : mH) : Option (Int32 × mH) :=
  some (x1, uI h 11 0 6 ((h.1 11 0 6) + 1))
set_option maxRecDepth 20000 in
theorem sf_X11_hostRefuses (G : mG) (X : mX) (x1 : Int32)  (h : mH) : Sim G X cX11_hostRefuses 2 RX11 (some .int) (mRoom 0 0) eI (f_X11_hostRefuses x1 h) 0 [(0, .inr (.inr (11, 0))), (1, .inl x1)] [] h := by
  unfold f_X11_hostRefuses
  refine s_aload0 0 rfl dX11_hostRefuses_0 ?_
  refine s_dup rfl dX11_hostRefuses_1 ?_
  refine s_gi gI_RX11_57 dX11_hostRefuses_2 ?_
  refine s_k1 dX11_hostRefuses_5 ?_
  refine s_iadd dX11_hostRefuses_6 ?_
  refine s_pi pI_RX11_57 dX11_hostRefuses_7 ?_
  refine s_iload1 1 rfl dX11_hostRefuses_10 ?_
  exact s_ireturn rfl rfl dX11_hostRefuses_11
set_option maxRecDepth 20000 in
theorem cf_X11_hostRefuses (G : mG) (l : Launch) (x1 : Int32)  (h : mH) (b : Int32 × mH) (hb : f_X11_hostRefuses x1 h = some b) (hl : ∀ v ∈ ([.inr (.inr (11, 0)), .inl x1] : List mV), mLi v) : mMet G l yX11_hostRefuses cX11_hostRefuses 2 (some .int) (mRoom 0 0) [.inr (.inr (11, 0)), .inl x1] h (eI b) :=
  mMet.of (y := yX11_hostRefuses) (as := [.inr (.inr (11, 0)), .inl x1]) (by decide +kernel) (Nat.le_of_ble_eq_true rfl) (fun X => sf_X11_hostRefuses G X x1  h) hl b hb
-- DriverBook.tape(III)I
def f_X11_tape (x1 : Int32) (x2 : Int32) (x3 : Int32) (h : mH) : Option (Int32 × mH) :=
  (f_X11_isTape x1 h).bind fun r1 =>
  if r1.1 = 0 then
    some ((-1), r1.2)
  else
    if x2 < 1 then
      some ((-1), r1.2)
    else
      if x2 ≤ 4 then
        if x3 ≤ 64 then
          if x3 < 0 then
            (f_X11_hostRefuses (-14) r1.2).bind fun r9 =>
            some (r9.1, r9.2)
          else
            if mIn x1 6 = true then
            (f_X9_takeRow x1.toNatClampNeg x2 x3 r1.2).bind fun r8 =>
            some (x3, r8)
            else none
        else
          some ((-1), r1.2)
      else
        some ((-1), r1.2)
set_option maxRecDepth 20000 in
theorem sf_X11_tape (G : mG) (X : mX) (x1 : Int32) (x2 : Int32) (x3 : Int32)  (h : mH) : Sim G X cX11_tape 4 RX11 (some .int) (mRoom 2 46) eI (f_X11_tape x1 x2 x3 h) 0 [(0, .inr (.inr (11, 0))), (1, .inl x1), (2, .inl x2), (3, .inl x3)] [] h := by
  unfold f_X11_tape
  refine s_iload1 1 rfl dX11_tape_0 ?_
  refine s_siI [.inl x1] (fun l b hb hl => cf_X11_isTape G l x1 h b hb hl) me_X11_isTape si_RX11_253 rfl rfl rfl rfl rfl dX11_tape_1 (fun r1 => ?_)
  refine s_if_eq (tgt := 23) dX11_tape_4 (by decide) (fun q2 => ?_) (fun q2 => ?_)
  · skip
    refine s_km1 dX11_tape_23 ?_
    exact s_ireturn rfl rfl dX11_tape_24
  · skip
    refine s_iload2 2 rfl dX11_tape_7 ?_
    refine s_k1 dX11_tape_8 ?_
    refine s_ic_lt (tgt := 23) dX11_tape_9 (by decide) (fun q3 => ?_) (fun q3 => ?_)
    · skip
      refine s_km1 dX11_tape_23 ?_
      exact s_ireturn rfl rfl dX11_tape_24
    · skip
      refine s_iload2 2 rfl dX11_tape_12 ?_
      refine s_k4 dX11_tape_13 ?_
      refine s_ic_gt (tgt := 23) dX11_tape_14 (by decide) (fun q4 => ?_) (fun q4 => ?_)
      · skip
        refine s_km1 dX11_tape_23 ?_
        exact s_ireturn rfl rfl dX11_tape_24
      · skip
        refine s_iload3 3 rfl dX11_tape_17 ?_
        refine s_bip 64 kb_64 dX11_tape_18 ?_
        refine s_ic_le (tgt := 25) dX11_tape_20 (by decide) (fun q5 => ?_) (fun q5 => ?_)
        · skip
          refine s_iload3 3 rfl dX11_tape_25 ?_
          refine s_if_ge (tgt := 36) dX11_tape_26 (by decide) (fun q6 => ?_) (fun q6 => ?_)
          · skip
            refine s_aload0 0 rfl dX11_tape_36 ?_
            refine s_gr (gR_RX11_52 0) dX11_tape_37 ?_
            refine s_iload1 1 rfl dX11_tape_40 ?_
            refine s_chk (fun q7 => ?_)
            refine s_aal (aR_45 0 x1) q7 dX11_tape_41 ?_
            refine s_iload2 2 rfl dX11_tape_42 ?_
            refine s_iload3 3 rfl dX11_tape_43 ?_
            refine s_viV [.inl x2, .inl x3] (fun l b hb hl => cf_X9_takeRow G l x1.toNatClampNeg x2 x3 r1.2 b hb hl) me_X9_takeRow vi_RX11_259 rfl rfl rfl rfl rfl dX11_tape_44 (fun r8 => ?_)
            refine s_iload3 3 rfl dX11_tape_47 ?_
            exact s_ireturn rfl rfl dX11_tape_48
          · skip
            refine s_aload0 0 rfl dX11_tape_29 ?_
            refine s_bip (-14) kb_m14 dX11_tape_30 ?_
            refine s_viI [.inl (-14)] (fun l b hb hl => cf_X11_hostRefuses G l (-14) r1.2 b hb hl) me_X11_hostRefuses vi_RX11_256 rfl rfl rfl rfl rfl dX11_tape_32 (fun r9 => ?_)
            exact s_ireturn rfl rfl dX11_tape_35
        · skip
          refine s_km1 dX11_tape_23 ?_
          exact s_ireturn rfl rfl dX11_tape_24
set_option maxRecDepth 20000 in
theorem cf_X11_tape (G : mG) (l : Launch) (x1 : Int32) (x2 : Int32) (x3 : Int32)  (h : mH) (b : Int32 × mH) (hb : f_X11_tape x1 x2 x3 h = some b) (hl : ∀ v ∈ ([.inr (.inr (11, 0)), .inl x1, .inl x2, .inl x3] : List mV), mLi v) : mMet G l yX11_tape cX11_tape 4 (some .int) (mRoom 2 46) [.inr (.inr (11, 0)), .inl x1, .inl x2, .inl x3] h (eI b) :=
  mMet.of (y := yX11_tape) (as := [.inr (.inr (11, 0)), .inl x1, .inl x2, .inl x3]) (by decide +kernel) (Nat.le_of_ble_eq_true rfl) (fun X => sf_X11_tape G X x1 x2 x3  h) hl b hb
-- DriverBook.image(I)I
def f_X11_image (x1 : Int32) (h : mH) : Option (Int32 × mH) :=
  (f_X11_isTape x1 h).bind fun r1 =>
  if r1.1 = 0 then
    some ((-1), r1.2)
  else
    if mIn x1 6 = true then
    (f_X9_takeImage x1.toNatClampNeg 0 (r1.2.1 1 0 8) r1.2).bind fun r4 =>
    (f_X11_nearestInt (r4.2 8 0 10) r4).bind fun r5 =>
    some (r5.1, r5.2)
    else none
set_option maxRecDepth 20000 in
theorem sf_X11_image (G : mG) (X : mX) (x1 : Int32)  (h : mH) : Sim G X cX11_image 2 RX11 (some .int) (mRoom 3 107) eI (f_X11_image x1 h) 0 [(0, .inr (.inr (11, 0))), (1, .inl x1)] [] h := by
  unfold f_X11_image
  refine s_iload1 1 rfl dX11_image_0 ?_
  refine s_siI [.inl x1] (fun l b hb hl => cf_X11_isTape G l x1 h b hb hl) me_X11_isTape si_RX11_253 rfl rfl rfl rfl rfl dX11_image_1 (fun r1 => ?_)
  refine s_if_ne (tgt := 9) dX11_image_4 (by decide) (fun q2 => ?_) (fun q2 => ?_)
  · skip
    refine s_aload0 0 rfl dX11_image_9 ?_
    refine s_gr (gR_RX11_52 0) dX11_image_10 ?_
    refine s_iload1 1 rfl dX11_image_13 ?_
    refine s_chk (fun q3 => ?_)
    refine s_aal (aR_45 0 x1) q3 dX11_image_14 ?_
    refine s_aload0 0 rfl dX11_image_15 ?_
    refine s_gr (gR_RX11_19 0) dX11_image_16 ?_
    refine s_aload0 0 rfl dX11_image_19 ?_
    refine s_gr (gR_RX11_10 0) dX11_image_20 ?_
    refine s_gi gI_RX11_262 dX11_image_23 ?_
    refine s_viV [.inr (.inr (8, 0)), .inl (r1.2.1 1 0 8)] (fun l b hb hl => cf_X9_takeImage G l x1.toNatClampNeg 0 (r1.2.1 1 0 8) r1.2 b hb hl) me_X9_takeImage vi_RX11_265 rfl rfl rfl rfl rfl dX11_image_26 (fun r4 => ?_)
    refine s_aload0 0 rfl dX11_image_29 ?_
    refine s_gr (gR_RX11_19 0) dX11_image_30 ?_
    refine s_gj gJ_RX11_178 dX11_image_33 ?_
    refine s_siI [.inr (.inl (r4.2 8 0 10))] (fun l b hb hl => cf_X11_nearestInt G l (r4.2 8 0 10) r4 b hb hl) me_X11_nearestInt si_RX11_192 rfl rfl rfl rfl rfl dX11_image_36 (fun r5 => ?_)
    exact s_ireturn rfl rfl dX11_image_39
  · skip
    refine s_km1 dX11_image_7 ?_
    exact s_ireturn rfl rfl dX11_image_8
set_option maxRecDepth 20000 in
theorem cf_X11_image (G : mG) (l : Launch) (x1 : Int32)  (h : mH) (b : Int32 × mH) (hb : f_X11_image x1 h = some b) (hl : ∀ v ∈ ([.inr (.inr (11, 0)), .inl x1] : List mV), mLi v) : mMet G l yX11_image cX11_image 2 (some .int) (mRoom 3 107) [.inr (.inr (11, 0)), .inl x1] h (eI b) :=
  mMet.of (y := yX11_image) (as := [.inr (.inr (11, 0)), .inl x1]) (by decide +kernel) (Nat.le_of_ble_eq_true rfl) (fun X => sf_X11_image G X x1  h) hl b hb
-- DriverBook.back(I)I
def f_X11_back (x1 : Int32) (h : mH) : Option (Int32 × mH) :=
  (f_X11_isTape x1 h).bind fun r1 =>
  if r1.1 = 0 then
    some ((-1), r1.2)
  else
    if mIn x1 6 = true then
    if (r1.2.1 9 x1.toNatClampNeg 0) = 5 then
      if (r1.2.1 9 x1.toNatClampNeg 4) = (r1.2.1 1 0 8) then
        (f_X8_takeFrom 0 (x1.toNatClampNeg + 2) r1.2).bind fun r6 =>
        (f_X11_nearestInt (r6.2 8 0 10) r6).bind fun r7 =>
        some (r7.1, r7.2)
      else
        some ((-7), r1.2)
    else
      if (r1.2.1 9 x1.toNatClampNeg 0) = 0 then
        (f_X11_hostRefuses (-11) r1.2).bind fun r10 =>
        some (r10.1, r10.2)
      else
        (f_X11_hostRefuses (-12) r1.2).bind fun r9 =>
        some (r9.1, r9.2)
    else none
set_option maxRecDepth 20000 in
theorem sf_X11_back (G : mG) (X : mX) (x1 : Int32)  (h : mH) : Sim G X cX11_back 3 RX11 (some .int) (mRoom 2 85) eI (f_X11_back x1 h) 0 [(0, .inr (.inr (11, 0))), (1, .inl x1)] [] h := by
  unfold f_X11_back
  refine s_iload1 1 rfl dX11_back_0 ?_
  refine s_siI [.inl x1] (fun l b hb hl => cf_X11_isTape G l x1 h b hb hl) me_X11_isTape si_RX11_253 rfl rfl rfl rfl rfl dX11_back_1 (fun r1 => ?_)
  refine s_if_ne (tgt := 9) dX11_back_4 (by decide) (fun q2 => ?_) (fun q2 => ?_)
  · skip
    refine s_aload0 0 rfl dX11_back_9 ?_
    refine s_gr (gR_RX11_52 0) dX11_back_10 ?_
    refine s_iload1 1 rfl dX11_back_13 ?_
    refine s_chk (fun q3 => ?_)
    refine s_aal (aR_45 0 x1) q3 dX11_back_14 ?_
    refine s_astore2 [(2, .inr (.inr (9, x1.toNatClampNeg))), (0, .inr (.inr (11, 0))), (1, .inl x1)] rfl rfl dX11_back_15 ?_
    refine s_aload2 0 rfl dX11_back_16 ?_
    refine s_gi gI_RX11_269 dX11_back_17 ?_
    refine s_k5 dX11_back_20 ?_
    refine s_ic_eq (tgt := 43) dX11_back_21 (by decide) (fun q4 => ?_) (fun q4 => ?_)
    · skip
      refine s_aload2 0 rfl dX11_back_43 ?_
      refine s_gi gI_RX11_272 dX11_back_44 ?_
      refine s_aload0 1 rfl dX11_back_47 ?_
      refine s_gr (gR_RX11_10 0) dX11_back_48 ?_
      refine s_gi gI_RX11_262 dX11_back_51 ?_
      refine s_ic_eq (tgt := 60) dX11_back_54 (by decide) (fun q5 => ?_) (fun q5 => ?_)
      · skip
        refine s_aload0 1 rfl dX11_back_60 ?_
        refine s_gr (gR_RX11_19 0) dX11_back_61 ?_
        refine s_aload2 0 rfl dX11_back_64 ?_
        refine s_gr (gR_RX11_273 x1.toNatClampNeg) dX11_back_65 ?_
        refine s_viV [.inr (.inr (8, x1.toNatClampNeg + 2))] (fun l b hb hl => cf_X8_takeFrom G l 0 (x1.toNatClampNeg + 2) r1.2 b hb hl) me_X8_takeFrom vi_RX11_276 rfl rfl rfl rfl rfl dX11_back_68 (fun r6 => ?_)
        refine s_aload0 1 rfl dX11_back_71 ?_
        refine s_gr (gR_RX11_19 0) dX11_back_72 ?_
        refine s_gj gJ_RX11_178 dX11_back_75 ?_
        refine s_siI [.inr (.inl (r6.2 8 0 10))] (fun l b hb hl => cf_X11_nearestInt G l (r6.2 8 0 10) r6 b hb hl) me_X11_nearestInt si_RX11_192 rfl rfl rfl rfl rfl dX11_back_78 (fun r7 => ?_)
        exact s_ireturn rfl rfl dX11_back_81
      · skip
        refine s_bip (-7) kb_m7 dX11_back_57 ?_
        exact s_ireturn rfl rfl dX11_back_59
    · skip
      refine s_aload0 1 rfl dX11_back_24 ?_
      refine s_aload2 0 rfl dX11_back_25 ?_
      refine s_gi gI_RX11_269 dX11_back_26 ?_
      refine s_if_ne (tgt := 37) dX11_back_29 (by decide) (fun q8 => ?_) (fun q8 => ?_)
      · skip
        refine s_bip (-12) kb_m12 dX11_back_37 ?_
        refine s_viI [.inl (-12)] (fun l b hb hl => cf_X11_hostRefuses G l (-12) r1.2 b hb hl) me_X11_hostRefuses vi_RX11_256 rfl rfl rfl rfl rfl dX11_back_39 (fun r9 => ?_)
        exact s_ireturn rfl rfl dX11_back_42
      · skip
        refine s_bip (-11) kb_m11 dX11_back_32 ?_
        refine s_goto (tgt := 39) dX11_back_34 (by decide) ?_
        refine s_viI [.inl (-11)] (fun l b hb hl => cf_X11_hostRefuses G l (-11) r1.2 b hb hl) me_X11_hostRefuses vi_RX11_256 rfl rfl rfl rfl rfl dX11_back_39 (fun r10 => ?_)
        exact s_ireturn rfl rfl dX11_back_42
  · skip
    refine s_km1 dX11_back_7 ?_
    exact s_ireturn rfl rfl dX11_back_8
set_option maxRecDepth 20000 in
theorem cf_X11_back (G : mG) (l : Launch) (x1 : Int32)  (h : mH) (b : Int32 × mH) (hb : f_X11_back x1 h = some b) (hl : ∀ v ∈ ([.inr (.inr (11, 0)), .inl x1] : List mV), mLi v) : mMet G l yX11_back cX11_back 3 (some .int) (mRoom 2 85) [.inr (.inr (11, 0)), .inl x1] h (eI b) :=
  mMet.of (y := yX11_back) (as := [.inr (.inr (11, 0)), .inl x1]) (by decide +kernel) (Nat.le_of_ble_eq_true rfl) (fun X => sf_X11_back G X x1  h) hl b hb
