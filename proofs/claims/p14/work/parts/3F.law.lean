/-! ===== the law's loop: a function a case, and their Sim rows ===== -/
def f_L_196 (sc : Nat → Int32) (n : Nat) (kb : Int32 → mH → Option mH) (v4 : Int32) (h : mH) : Option mH :=
  if mIn (v4 + 1) n = true then
  (f_X11_begin (sc (v4 + 1).toNatClampNeg) h).bind fun r5 =>
  (f_X12_begin (sc (v4 + 1).toNatClampNeg) r5.2).bind fun r6 =>
  kb (v4 + 6) r6.2
  else none
def f_L_221 (sc : Nat → Int32) (n : Nat) (kb : Int32 → mH → Option mH) (v4 : Int32) (h : mH) : Option mH :=
  if mIn (v4 + 1) n = true then
  if mIn (v4 + 2) n = true then
  if mIn (v4 + 3) n = true then
  if mIn (v4 + 4) n = true then
  if mIn (v4 + 5) n = true then
  (f_X11_field (sc (v4 + 1).toNatClampNeg) (sc (v4 + 2).toNatClampNeg) (sc (v4 + 3).toNatClampNeg) (sc (v4 + 4).toNatClampNeg) (sc (v4 + 5).toNatClampNeg) h).bind fun r13 =>
  (f_X12_field (sc (v4 + 1).toNatClampNeg) (sc (v4 + 2).toNatClampNeg) (sc (v4 + 3).toNatClampNeg) (sc (v4 + 4).toNatClampNeg) (sc (v4 + 5).toNatClampNeg) r13.2).bind fun r14 =>
  kb (v4 + 6) r14.2
  else none
  else none
  else none
  else none
  else none
def f_L_294 (sc : Nat → Int32) (n : Nat) (kb : Int32 → mH → Option mH) (v4 : Int32) (h : mH) : Option mH :=
  if mIn (v4 + 1) n = true then
  if mIn (v4 + 2) n = true then
  (f_X11_period (sc (v4 + 1).toNatClampNeg) (sc (v4 + 2).toNatClampNeg) h).bind fun r18 =>
  (f_X12_period (sc (v4 + 1).toNatClampNeg) (sc (v4 + 2).toNatClampNeg) r18.2).bind fun r19 =>
  kb (v4 + 6) r19.2
  else none
  else none
def f_L_331 (sc : Nat → Int32) (n : Nat) (kb : Int32 → mH → Option mH) (v4 : Int32) (h : mH) : Option mH :=
  if mIn (v4 + 1) n = true then
  if mIn (v4 + 2) n = true then
  (f_X11_done (sc (v4 + 1).toNatClampNeg) (sc (v4 + 2).toNatClampNeg) h).bind fun r23 =>
  (f_X12_done (sc (v4 + 1).toNatClampNeg) (sc (v4 + 2).toNatClampNeg) r23.2).bind fun r24 =>
  kb (v4 + 6) r24.2
  else none
  else none
def f_L_368 (sc : Nat → Int32) (n : Nat) (kb : Int32 → mH → Option mH) (v4 : Int32) (h : mH) : Option mH :=
  if mIn (v4 + 1) n = true then
  if mIn (v4 + 2) n = true then
  if mIn (v4 + 3) n = true then
  if mIn (v4 + 4) n = true then
  (f_X11_law (sc (v4 + 1).toNatClampNeg) (sc (v4 + 2).toNatClampNeg) (sc (v4 + 3).toNatClampNeg) (sc (v4 + 4).toNatClampNeg) h).bind fun r30 =>
  (f_X12_law (sc (v4 + 1).toNatClampNeg) (sc (v4 + 2).toNatClampNeg) (sc (v4 + 3).toNatClampNeg) (sc (v4 + 4).toNatClampNeg) r30.2).bind fun r31 =>
  kb (v4 + 6) r31.2
  else none
  else none
  else none
  else none
def f_L_429 (sc : Nat → Int32) (n : Nat) (kb : Int32 → mH → Option mH) (v4 : Int32) (h : mH) : Option mH :=
  (f_X11_act  h).bind fun r33 =>
  (f_X12_act  r33.2).bind fun r34 =>
  kb (v4 + 6) r34.2
def f_L_442 (sc : Nat → Int32) (n : Nat) (kb : Int32 → mH → Option mH) (v4 : Int32) (h : mH) : Option mH :=
  if mIn (v4 + 1) n = true then
  if mIn (v4 + 2) n = true then
  if mIn (v4 + 3) n = true then
  if mIn (v4 + 4) n = true then
  if mIn (v4 + 5) n = true then
  (f_X11_step (sc (v4 + 1).toNatClampNeg) (sc (v4 + 2).toNatClampNeg) (sc (v4 + 3).toNatClampNeg) (sc (v4 + 4).toNatClampNeg) (sc (v4 + 5).toNatClampNeg) h).bind fun r41 =>
  (f_X12_step (sc (v4 + 1).toNatClampNeg) (sc (v4 + 2).toNatClampNeg) (sc (v4 + 3).toNatClampNeg) (sc (v4 + 4).toNatClampNeg) (sc (v4 + 5).toNatClampNeg) r41.2).bind fun r42 =>
  kb (v4 + 6) r42.2
  else none
  else none
  else none
  else none
  else none
def f_L_515 (sc : Nat → Int32) (n : Nat) (kb : Int32 → mH → Option mH) (v4 : Int32) (h : mH) : Option mH :=
  if mIn (v4 + 1) n = true then
  (f_X11_bare (sc (v4 + 1).toNatClampNeg) h).bind fun r45 =>
  (f_X12_bare (sc (v4 + 1).toNatClampNeg) r45.2).bind fun r46 =>
  kb (v4 + 6) r46.2
  else none
def f_L_540 (sc : Nat → Int32) (n : Nat) (kb : Int32 → mH → Option mH) (v4 : Int32) (h : mH) : Option mH :=
  if mIn (v4 + 1) n = true then
  if mIn (v4 + 2) n = true then
  (f_X11_handler (sc (v4 + 1).toNatClampNeg) (sc (v4 + 2).toNatClampNeg) h).bind fun r50 =>
  (f_X12_handler (sc (v4 + 1).toNatClampNeg) (sc (v4 + 2).toNatClampNeg) r50.2).bind fun r51 =>
  kb (v4 + 6) r51.2
  else none
  else none
def f_L_577 (sc : Nat → Int32) (n : Nat) (kb : Int32 → mH → Option mH) (v4 : Int32) (h : mH) : Option mH :=
  if mIn (v4 + 1) n = true then
  (f_X11_locks (sc (v4 + 1).toNatClampNeg) h).bind fun r54 =>
  (f_X12_locks (sc (v4 + 1).toNatClampNeg) r54.2).bind fun r55 =>
  kb (v4 + 6) r55.2
  else none
def f_L_602 (sc : Nat → Int32) (n : Nat) (kb : Int32 → mH → Option mH) (v4 : Int32) (h : mH) : Option mH :=
  if mIn (v4 + 1) n = true then
  (f_X11_code (sc (v4 + 1).toNatClampNeg) h).bind fun r58 =>
  (f_X12_code (sc (v4 + 1).toNatClampNeg) r58.2).bind fun r59 =>
  kb (v4 + 6) r59.2
  else none
def f_L_627 (sc : Nat → Int32) (n : Nat) (kb : Int32 → mH → Option mH) (v4 : Int32) (h : mH) : Option mH :=
  if mIn (v4 + 1) n = true then
  if mIn (v4 + 2) n = true then
  if mIn (v4 + 3) n = true then
  (f_X11_op (sc (v4 + 1).toNatClampNeg) (sc (v4 + 2).toNatClampNeg) (sc (v4 + 3).toNatClampNeg) h).bind fun r64 =>
  (f_X12_op (sc (v4 + 1).toNatClampNeg) (sc (v4 + 2).toNatClampNeg) (sc (v4 + 3).toNatClampNeg) r64.2).bind fun r65 =>
  kb (v4 + 6) r65.2
  else none
  else none
  else none
def f_L_676 (sc : Nat → Int32) (n : Nat) (kb : Int32 → mH → Option mH) (v4 : Int32) (h : mH) : Option mH :=
  if mIn (v4 + 1) n = true then
  if mIn (v4 + 2) n = true then
  (f_X11_same (sc (v4 + 1).toNatClampNeg) (sc (v4 + 2).toNatClampNeg) h).bind fun r69 =>
  (f_X12_same (sc (v4 + 1).toNatClampNeg) (sc (v4 + 2).toNatClampNeg) r69.2).bind fun r70 =>
  if r69.1 = r70.1 then
    kb (v4 + 6) r70.2
  else
    none
  else none
  else none
def f_L_713 (sc : Nat → Int32) (n : Nat) (kb : Int32 → mH → Option mH) (v4 : Int32) (h : mH) : Option mH :=
  (f_X11_power  h).bind fun r73 =>
  (f_X12_power  r73.2).bind fun r74 =>
  kb (v4 + 6) r74.2
def f_L_726 (sc : Nat → Int32) (n : Nat) (kb : Int32 → mH → Option mH) (v4 : Int32) (h : mH) : Option mH :=
  if mIn (v4 + 1) n = true then
  if mIn (v4 + 2) n = true then
  if mIn (v4 + 3) n = true then
  (f_X11_event (sc (v4 + 1).toNatClampNeg) (sc (v4 + 2).toNatClampNeg) (sc (v4 + 3).toNatClampNeg) h).bind fun r79 =>
  (f_X12_event (sc (v4 + 1).toNatClampNeg) (sc (v4 + 2).toNatClampNeg) (sc (v4 + 3).toNatClampNeg) r79.2).bind fun r80 =>
  kb (v4 + 6) r80.2
  else none
  else none
  else none
def f_L_775 (sc : Nat → Int32) (n : Nat) (kb : Int32 → mH → Option mH) (v4 : Int32) (h : mH) : Option mH :=
  if mIn (v4 + 1) n = true then
  (f_X11_run (sc (v4 + 1).toNatClampNeg) h).bind fun r83 =>
  (f_X12_run (sc (v4 + 1).toNatClampNeg) r83.2).bind fun r84 =>
  kb (v4 + 6) r84.2
  else none
def f_L_800 (sc : Nat → Int32) (n : Nat) (kb : Int32 → mH → Option mH) (v4 : Int32) (h : mH) : Option mH :=
  if mIn (v4 + 1) n = true then
  (f_X11_read (sc (v4 + 1).toNatClampNeg) h).bind fun r87 =>
  (f_X12_read (sc (v4 + 1).toNatClampNeg) r87.2).bind fun r88 =>
  kb (v4 + 6) r88.2
  else none
def f_L_825 (sc : Nat → Int32) (n : Nat) (kb : Int32 → mH → Option mH) (v4 : Int32) (h : mH) : Option mH :=
  if mIn (v4 + 1) n = true then
  if mIn (v4 + 2) n = true then
  (f_X11_write (sc (v4 + 1).toNatClampNeg) (sc (v4 + 2).toNatClampNeg) h).bind fun r92 =>
  (f_X12_write (sc (v4 + 1).toNatClampNeg) (sc (v4 + 2).toNatClampNeg) r92.2).bind fun r93 =>
  kb (v4 + 6) r93.2
  else none
  else none
def f_L_862 (sc : Nat → Int32) (n : Nat) (kb : Int32 → mH → Option mH) (v4 : Int32) (h : mH) : Option mH :=
  if mIn (v4 + 1) n = true then
  (f_X11_wait (sc (v4 + 1).toNatClampNeg) h).bind fun r96 =>
  (f_X12_wait (sc (v4 + 1).toNatClampNeg) r96.2).bind fun r97 =>
  kb (v4 + 6) r97.2
  else none
def f_L_887 (sc : Nat → Int32) (n : Nat) (kb : Int32 → mH → Option mH) (v4 : Int32) (h : mH) : Option mH :=
  if mIn (v4 + 1) n = true then
  if mIn (v4 + 2) n = true then
  (f_X11_peek (sc (v4 + 1).toNatClampNeg) (sc (v4 + 2).toNatClampNeg) h).bind fun r101 =>
  (f_X12_peek (sc (v4 + 1).toNatClampNeg) (sc (v4 + 2).toNatClampNeg) r101.2).bind fun r102 =>
  kb (v4 + 6) r102.2
  else none
  else none
def f_L_924 (sc : Nat → Int32) (n : Nat) (kb : Int32 → mH → Option mH) (v4 : Int32) (h : mH) : Option mH :=
  if mIn (v4 + 1) n = true then
  (f_X11_shadow (sc (v4 + 1).toNatClampNeg) h).bind fun r105 =>
  (f_X12_shadow (sc (v4 + 1).toNatClampNeg) r105.2).bind fun r106 =>
  kb (v4 + 6) r106.2
  else none
def f_L_949 (sc : Nat → Int32) (n : Nat) (kb : Int32 → mH → Option mH) (v4 : Int32) (h : mH) : Option mH :=
  (f_X11_result  h).bind fun r108 =>
  (f_X12_result  r108.2).bind fun r109 =>
  kb (v4 + 6) r109.2
def f_L_962 (sc : Nat → Int32) (n : Nat) (kb : Int32 → mH → Option mH) (v4 : Int32) (h : mH) : Option mH :=
  if mIn (v4 + 1) n = true then
  (f_X11_breaks (sc (v4 + 1).toNatClampNeg) h).bind fun r112 =>
  (f_X12_breaks (sc (v4 + 1).toNatClampNeg) r112.2).bind fun r113 =>
  kb (v4 + 6) r113.2
  else none
def f_L_987 (sc : Nat → Int32) (n : Nat) (kb : Int32 → mH → Option mH) (v4 : Int32) (h : mH) : Option mH :=
  if mIn (v4 + 1) n = true then
  if mIn (v4 + 2) n = true then
  (f_X11_walk (sc (v4 + 1).toNatClampNeg) (sc (v4 + 2).toNatClampNeg) h).bind fun r117 =>
  (f_X12_walk (sc (v4 + 1).toNatClampNeg) (sc (v4 + 2).toNatClampNeg) r117.2).bind fun r118 =>
  kb (v4 + 6) r118.2
  else none
  else none
def f_L_1024 (sc : Nat → Int32) (n : Nat) (kb : Int32 → mH → Option mH) (v4 : Int32) (h : mH) : Option mH :=
  if mIn (v4 + 1) n = true then
  (f_X11_why (sc (v4 + 1).toNatClampNeg) h).bind fun r121 =>
  (f_X12_why (sc (v4 + 1).toNatClampNeg) r121.2).bind fun r122 =>
  kb (v4 + 6) r122.2
  else none
def f_L_1049 (sc : Nat → Int32) (n : Nat) (kb : Int32 → mH → Option mH) (v4 : Int32) (h : mH) : Option mH :=
  if mIn (v4 + 1) n = true then
  if mIn (v4 + 2) n = true then
  if mIn (v4 + 3) n = true then
  (f_X11_tape (sc (v4 + 1).toNatClampNeg) (sc (v4 + 2).toNatClampNeg) (sc (v4 + 3).toNatClampNeg) h).bind fun r127 =>
  (f_X12_tape (sc (v4 + 1).toNatClampNeg) (sc (v4 + 2).toNatClampNeg) (sc (v4 + 3).toNatClampNeg) r127.2).bind fun r128 =>
  kb (v4 + 6) r128.2
  else none
  else none
  else none
def f_L_1098 (sc : Nat → Int32) (n : Nat) (kb : Int32 → mH → Option mH) (v4 : Int32) (h : mH) : Option mH :=
  if mIn (v4 + 1) n = true then
  (f_X11_image (sc (v4 + 1).toNatClampNeg) h).bind fun r131 =>
  (f_X12_image (sc (v4 + 1).toNatClampNeg) r131.2).bind fun r132 =>
  kb (v4 + 6) r132.2
  else none
def f_L_1123 (sc : Nat → Int32) (n : Nat) (kb : Int32 → mH → Option mH) (v4 : Int32) (h : mH) : Option mH :=
  if mIn (v4 + 1) n = true then
  (f_X11_back (sc (v4 + 1).toNatClampNeg) h).bind fun r135 =>
  (f_X12_back (sc (v4 + 1).toNatClampNeg) r135.2).bind fun r136 =>
  kb (v4 + 6) r136.2
  else none
def f_L_1148 (sc : Nat → Int32) (n : Nat) (kb : Int32 → mH → Option mH) (v4 : Int32) (h : mH) : Option mH :=
  if mIn (v4 + 1) n = true then
  (f_X11_toss (sc (v4 + 1).toNatClampNeg) h).bind fun r139 =>
  (f_X12_toss (sc (v4 + 1).toNatClampNeg) r139.2).bind fun r140 =>
  kb (v4 + 6) r140.2
  else none
def f_L_1173 (sc : Nat → Int32) (n : Nat) (kb : Int32 → mH → Option mH) (v4 : Int32) (h : mH) : Option mH :=
  if mIn (v4 + 1) n = true then
  if mIn (v4 + 2) n = true then
  if mIn (v4 + 3) n = true then
  (f_X11_play (sc (v4 + 1).toNatClampNeg) (sc (v4 + 2).toNatClampNeg) (sc (v4 + 3).toNatClampNeg) h).bind fun r145 =>
  (f_X12_play (sc (v4 + 1).toNatClampNeg) (sc (v4 + 2).toNatClampNeg) (sc (v4 + 3).toNatClampNeg) r145.2).bind fun r146 =>
  kb (v4 + 6) r146.2
  else none
  else none
  else none
def f_L_1222 (sc : Nat → Int32) (n : Nat) (kb : Int32 → mH → Option mH) (v4 : Int32) (h : mH) : Option mH :=
  if mIn (v4 + 1) n = true then
  (f_X11_clear (sc (v4 + 1).toNatClampNeg) h).bind fun r149 =>
  (f_X12_clear (sc (v4 + 1).toNatClampNeg) r149.2).bind fun r150 =>
  kb (v4 + 6) r150.2
  else none
def f_L_1247 (sc : Nat → Int32) (n : Nat) (kb : Int32 → mH → Option mH) (v4 : Int32) (h : mH) : Option mH :=
  if mIn (v4 + 1) n = true then
  if mIn (v4 + 2) n = true then
  if mIn (v4 + 3) n = true then
  if mIn (v4 + 4) n = true then
  (f_X11_put (sc (v4 + 1).toNatClampNeg) (sc (v4 + 2).toNatClampNeg) ((((sc (v4 + 3).toNatClampNeg).toInt64) <<< ((32 : Int32).toInt64 &&& 63)) ||| (((sc (v4 + 4).toNatClampNeg).toInt64) &&& 4294967295)) h).bind fun r156 =>
  (f_X12_put (sc (v4 + 1).toNatClampNeg) (sc (v4 + 2).toNatClampNeg) ((((sc (v4 + 3).toNatClampNeg).toInt64) <<< ((32 : Int32).toInt64 &&& 63)) ||| (((sc (v4 + 4).toNatClampNeg).toInt64) &&& 4294967295)) r156.2).bind fun r157 =>
  kb (v4 + 6) r157.2
  else none
  else none
  else none
  else none
def f_L_1328 (sc : Nat → Int32) (n : Nat) (kb : Int32 → mH → Option mH) (v4 : Int32) (h : mH) : Option mH :=
  if mIn (v4 + 1) n = true then
  if mIn (v4 + 2) n = true then
  (f_L_at (sc (v4 + 1).toNatClampNeg) (sc (v4 + 2).toNatClampNeg) h).bind fun r161 =>
  (f_X12_at (sc (v4 + 1).toNatClampNeg) (sc (v4 + 2).toNatClampNeg) r161.2).bind fun r162 =>
  kb (v4 + 6) r162.2
  else none
  else none
def f_L_1368 (sc : Nat → Int32) (n : Nat) (kb : Int32 → mH → Option mH) (v4 : Int32) (h : mH) : Option mH :=
  if mIn (v4 + 1) n = true then
  if mIn (v4 + 2) n = true then
  if mIn (v4 + 3) n = true then
  if mIn (v4 + 4) n = true then
  if mIn (v4 + 5) n = true then
  (f_X11_copy (sc (v4 + 1).toNatClampNeg) (sc (v4 + 2).toNatClampNeg) (sc (v4 + 3).toNatClampNeg) (sc (v4 + 4).toNatClampNeg) (sc (v4 + 5).toNatClampNeg) h).bind fun r169 =>
  (f_X12_copy (sc (v4 + 1).toNatClampNeg) (sc (v4 + 2).toNatClampNeg) (sc (v4 + 3).toNatClampNeg) (sc (v4 + 4).toNatClampNeg) (sc (v4 + 5).toNatClampNeg) r169.2).bind fun r170 =>
  kb (v4 + 6) r170.2
  else none
  else none
  else none
  else none
  else none
def f_L_1441 (sc : Nat → Int32) (n : Nat) (kb : Int32 → mH → Option mH) (v4 : Int32) (h : mH) : Option mH :=
  if mIn (v4 + 1) n = true then
  (f_X11_count (sc (v4 + 1).toNatClampNeg) h).bind fun r173 =>
  (f_X12_count (sc (v4 + 1).toNatClampNeg) r173.2).bind fun r174 =>
  kb (v4 + 6) r174.2
  else none
def f_L_23 (sc : Nat → Int32) (n : Nat) (kb : Int32 → mH → Option mH) (v4 : Int32) (h : mH) : Option mH :=
  if v4 ≤ ((Int32.ofNat n) - 6) then
    if mIn v4 n = true then
    if ((sc v4.toNatClampNeg) &&& 63) = 0 then
      f_L_196 sc n kb v4 h
    else
    if ((sc v4.toNatClampNeg) &&& 63) = 1 then
      f_L_221 sc n kb v4 h
    else
    if ((sc v4.toNatClampNeg) &&& 63) = 2 then
      f_L_294 sc n kb v4 h
    else
    if ((sc v4.toNatClampNeg) &&& 63) = 3 then
      f_L_331 sc n kb v4 h
    else
    if ((sc v4.toNatClampNeg) &&& 63) = 4 then
      f_L_368 sc n kb v4 h
    else
    if ((sc v4.toNatClampNeg) &&& 63) = 5 then
      f_L_429 sc n kb v4 h
    else
    if ((sc v4.toNatClampNeg) &&& 63) = 6 then
      f_L_442 sc n kb v4 h
    else
    if ((sc v4.toNatClampNeg) &&& 63) = 7 then
      f_L_515 sc n kb v4 h
    else
    if ((sc v4.toNatClampNeg) &&& 63) = 8 then
      f_L_540 sc n kb v4 h
    else
    if ((sc v4.toNatClampNeg) &&& 63) = 9 then
      f_L_577 sc n kb v4 h
    else
    if ((sc v4.toNatClampNeg) &&& 63) = 10 then
      f_L_602 sc n kb v4 h
    else
    if ((sc v4.toNatClampNeg) &&& 63) = 11 then
      f_L_627 sc n kb v4 h
    else
    if ((sc v4.toNatClampNeg) &&& 63) = 12 then
      f_L_676 sc n kb v4 h
    else
    if ((sc v4.toNatClampNeg) &&& 63) = 13 then
      f_L_713 sc n kb v4 h
    else
    if ((sc v4.toNatClampNeg) &&& 63) = 14 then
      f_L_726 sc n kb v4 h
    else
    if ((sc v4.toNatClampNeg) &&& 63) = 15 then
      f_L_775 sc n kb v4 h
    else
    if ((sc v4.toNatClampNeg) &&& 63) = 16 then
      f_L_800 sc n kb v4 h
    else
    if ((sc v4.toNatClampNeg) &&& 63) = 17 then
      f_L_825 sc n kb v4 h
    else
    if ((sc v4.toNatClampNeg) &&& 63) = 18 then
      f_L_862 sc n kb v4 h
    else
    if ((sc v4.toNatClampNeg) &&& 63) = 19 then
      f_L_887 sc n kb v4 h
    else
    if ((sc v4.toNatClampNeg) &&& 63) = 20 then
      f_L_924 sc n kb v4 h
    else
    if ((sc v4.toNatClampNeg) &&& 63) = 21 then
      f_L_949 sc n kb v4 h
    else
    if ((sc v4.toNatClampNeg) &&& 63) = 22 then
      f_L_962 sc n kb v4 h
    else
    if ((sc v4.toNatClampNeg) &&& 63) = 23 then
      f_L_987 sc n kb v4 h
    else
    if ((sc v4.toNatClampNeg) &&& 63) = 24 then
      f_L_1024 sc n kb v4 h
    else
    if ((sc v4.toNatClampNeg) &&& 63) = 25 then
      f_L_1049 sc n kb v4 h
    else
    if ((sc v4.toNatClampNeg) &&& 63) = 26 then
      f_L_1098 sc n kb v4 h
    else
    if ((sc v4.toNatClampNeg) &&& 63) = 27 then
      f_L_1123 sc n kb v4 h
    else
    if ((sc v4.toNatClampNeg) &&& 63) = 28 then
      f_L_1148 sc n kb v4 h
    else
    if ((sc v4.toNatClampNeg) &&& 63) = 29 then
      f_L_1173 sc n kb v4 h
    else
    if ((sc v4.toNatClampNeg) &&& 63) = 30 then
      f_L_1222 sc n kb v4 h
    else
    if ((sc v4.toNatClampNeg) &&& 63) = 31 then
      f_L_1247 sc n kb v4 h
    else
    if ((sc v4.toNatClampNeg) &&& 63) = 32 then
      f_L_1328 sc n kb v4 h
    else
    if ((sc v4.toNatClampNeg) &&& 63) = 33 then
      f_L_1368 sc n kb v4 h
    else
    if ((sc v4.toNatClampNeg) &&& 63) = 34 then
      f_L_1441 sc n kb v4 h
    else
      kb (v4 + 6) h
    else none
  else
    some h
set_option maxRecDepth 20000 in
theorem sf_L_196 {G : mG} {X : mX} {b n k : Nat} {sc : Nat → Int32} {kb : Int32 → mH → Option mH} (hX : lwX G X b n sc (k + 1)) (hkb : lwK G X kb) (v4 : Int32) (h : mH) : lwS G X (f_L_196 sc n kb v4 h) 196 [(4, .inl v4), (3, .inr (.inr (98, 0))), (2, .inr (.inr (12, 0))), (1, .inr (.inr (11, 0))), (0, .inr (.inr (99, 0)))] h := by
  unfold f_L_196
  refine s_aload1 3 rfl dL_law_196 ?_
  refine s_aload0 4 rfl dL_law_197 ?_
  refine s_iload 0 rfl dL_law_198 ?_
  refine s_k1 dL_law_200 ?_
  refine s_iadd dL_law_201 ?_
  refine s_chk (fun q4 => ?_)
  refine s_sld hX q4 dL_law_202 ?_
  refine s_viI [.inl (sc (v4 + 1).toNatClampNeg)] (fun l b hb hl => cf_X11_begin G l (sc (v4 + 1).toNatClampNeg) h b hb hl) me_X11_begin vi_RL_21 rfl rfl rfl rfl rfl dL_law_203 (fun r5 => ?_)
  refine s_pop rfl dL_law_206 ?_
  refine s_aload2 2 rfl dL_law_207 ?_
  refine s_aload0 4 rfl dL_law_208 ?_
  refine s_iload 0 rfl dL_law_209 ?_
  refine s_k1 dL_law_211 ?_
  refine s_iadd dL_law_212 ?_
  refine s_sld hX q4 dL_law_213 ?_
  refine s_viI [.inl (sc (v4 + 1).toNatClampNeg)] (fun l b hb hl => cf_X12_begin G l (sc (v4 + 1).toNatClampNeg) r5.2 b hb hl) me_X12_begin vi_RL_25 rfl rfl rfl rfl rfl dL_law_214 (fun r6 => ?_)
  refine s_pop rfl dL_law_217 ?_
  refine s_goto (tgt := 1466) dL_law_218 (by decide) ?_
  refine s_iincw 6 (by decide) 0 [(4, .inl (v4 + 6)), (3, .inr (.inr (98, 0))), (2, .inr (.inr (12, 0))), (1, .inr (.inr (11, 0))), (0, .inr (.inr (99, 0)))] rfl rfl rfl dL_law_1466 ?_
  refine s_goto (tgt := 23) dL_law_1469 (by decide) ?_
  exact s_loc [0, 1, 2, 3, 4] rfl (hkb _ (Or.inl rfl) (v4 + 6) r6.2)
set_option maxRecDepth 20000 in
theorem sf_L_221 {G : mG} {X : mX} {b n k : Nat} {sc : Nat → Int32} {kb : Int32 → mH → Option mH} (hX : lwX G X b n sc (k + 1)) (hkb : lwK G X kb) (v4 : Int32) (h : mH) : lwS G X (f_L_221 sc n kb v4 h) 221 [(4, .inl v4), (3, .inr (.inr (98, 0))), (2, .inr (.inr (12, 0))), (1, .inr (.inr (11, 0))), (0, .inr (.inr (99, 0)))] h := by
  unfold f_L_221
  refine s_aload1 3 rfl dL_law_221 ?_
  refine s_aload0 4 rfl dL_law_222 ?_
  refine s_iload 0 rfl dL_law_223 ?_
  refine s_k1 dL_law_225 ?_
  refine s_iadd dL_law_226 ?_
  refine s_chk (fun q8 => ?_)
  refine s_sld hX q8 dL_law_227 ?_
  refine s_aload0 4 rfl dL_law_228 ?_
  refine s_iload 0 rfl dL_law_229 ?_
  refine s_k2 dL_law_231 ?_
  refine s_iadd dL_law_232 ?_
  refine s_chk (fun q9 => ?_)
  refine s_sld hX q9 dL_law_233 ?_
  refine s_aload0 4 rfl dL_law_234 ?_
  refine s_iload 0 rfl dL_law_235 ?_
  refine s_k3 dL_law_237 ?_
  refine s_iadd dL_law_238 ?_
  refine s_chk (fun q10 => ?_)
  refine s_sld hX q10 dL_law_239 ?_
  refine s_aload0 4 rfl dL_law_240 ?_
  refine s_iload 0 rfl dL_law_241 ?_
  refine s_k4 dL_law_243 ?_
  refine s_iadd dL_law_244 ?_
  refine s_chk (fun q11 => ?_)
  refine s_sld hX q11 dL_law_245 ?_
  refine s_aload0 4 rfl dL_law_246 ?_
  refine s_iload 0 rfl dL_law_247 ?_
  refine s_k5 dL_law_249 ?_
  refine s_iadd dL_law_250 ?_
  refine s_chk (fun q12 => ?_)
  refine s_sld hX q12 dL_law_251 ?_
  refine s_viI [.inl (sc (v4 + 1).toNatClampNeg), .inl (sc (v4 + 2).toNatClampNeg), .inl (sc (v4 + 3).toNatClampNeg), .inl (sc (v4 + 4).toNatClampNeg), .inl (sc (v4 + 5).toNatClampNeg)] (fun l b hb hl => cf_X11_field G l (sc (v4 + 1).toNatClampNeg) (sc (v4 + 2).toNatClampNeg) (sc (v4 + 3).toNatClampNeg) (sc (v4 + 4).toNatClampNeg) (sc (v4 + 5).toNatClampNeg) h b hb hl) me_X11_field vi_RL_26 rfl rfl rfl rfl rfl dL_law_252 (fun r13 => ?_)
  refine s_pop rfl dL_law_255 ?_
  refine s_aload2 2 rfl dL_law_256 ?_
  refine s_aload0 4 rfl dL_law_257 ?_
  refine s_iload 0 rfl dL_law_258 ?_
  refine s_k1 dL_law_260 ?_
  refine s_iadd dL_law_261 ?_
  refine s_sld hX q8 dL_law_262 ?_
  refine s_aload0 4 rfl dL_law_263 ?_
  refine s_iload 0 rfl dL_law_264 ?_
  refine s_k2 dL_law_266 ?_
  refine s_iadd dL_law_267 ?_
  refine s_sld hX q9 dL_law_268 ?_
  refine s_aload0 4 rfl dL_law_269 ?_
  refine s_iload 0 rfl dL_law_270 ?_
  refine s_k3 dL_law_272 ?_
  refine s_iadd dL_law_273 ?_
  refine s_sld hX q10 dL_law_274 ?_
  refine s_aload0 4 rfl dL_law_275 ?_
  refine s_iload 0 rfl dL_law_276 ?_
  refine s_k4 dL_law_278 ?_
  refine s_iadd dL_law_279 ?_
  refine s_sld hX q11 dL_law_280 ?_
  refine s_aload0 4 rfl dL_law_281 ?_
  refine s_iload 0 rfl dL_law_282 ?_
  refine s_k5 dL_law_284 ?_
  refine s_iadd dL_law_285 ?_
  refine s_sld hX q12 dL_law_286 ?_
  refine s_viI [.inl (sc (v4 + 1).toNatClampNeg), .inl (sc (v4 + 2).toNatClampNeg), .inl (sc (v4 + 3).toNatClampNeg), .inl (sc (v4 + 4).toNatClampNeg), .inl (sc (v4 + 5).toNatClampNeg)] (fun l b hb hl => cf_X12_field G l (sc (v4 + 1).toNatClampNeg) (sc (v4 + 2).toNatClampNeg) (sc (v4 + 3).toNatClampNeg) (sc (v4 + 4).toNatClampNeg) (sc (v4 + 5).toNatClampNeg) r13.2 b hb hl) me_X12_field vi_RL_30 rfl rfl rfl rfl rfl dL_law_287 (fun r14 => ?_)
  refine s_pop rfl dL_law_290 ?_
  refine s_goto (tgt := 1466) dL_law_291 (by decide) ?_
  refine s_iincw 6 (by decide) 0 [(4, .inl (v4 + 6)), (3, .inr (.inr (98, 0))), (2, .inr (.inr (12, 0))), (1, .inr (.inr (11, 0))), (0, .inr (.inr (99, 0)))] rfl rfl rfl dL_law_1466 ?_
  refine s_goto (tgt := 23) dL_law_1469 (by decide) ?_
  exact s_loc [0, 1, 2, 3, 4] rfl (hkb _ (Or.inl rfl) (v4 + 6) r14.2)
set_option maxRecDepth 20000 in
theorem sf_L_294 {G : mG} {X : mX} {b n k : Nat} {sc : Nat → Int32} {kb : Int32 → mH → Option mH} (hX : lwX G X b n sc (k + 1)) (hkb : lwK G X kb) (v4 : Int32) (h : mH) : lwS G X (f_L_294 sc n kb v4 h) 294 [(4, .inl v4), (3, .inr (.inr (98, 0))), (2, .inr (.inr (12, 0))), (1, .inr (.inr (11, 0))), (0, .inr (.inr (99, 0)))] h := by
  unfold f_L_294
  refine s_aload1 3 rfl dL_law_294 ?_
  refine s_aload0 4 rfl dL_law_295 ?_
  refine s_iload 0 rfl dL_law_296 ?_
  refine s_k1 dL_law_298 ?_
  refine s_iadd dL_law_299 ?_
  refine s_chk (fun q16 => ?_)
  refine s_sld hX q16 dL_law_300 ?_
  refine s_aload0 4 rfl dL_law_301 ?_
  refine s_iload 0 rfl dL_law_302 ?_
  refine s_k2 dL_law_304 ?_
  refine s_iadd dL_law_305 ?_
  refine s_chk (fun q17 => ?_)
  refine s_sld hX q17 dL_law_306 ?_
  refine s_viI [.inl (sc (v4 + 1).toNatClampNeg), .inl (sc (v4 + 2).toNatClampNeg)] (fun l b hb hl => cf_X11_period G l (sc (v4 + 1).toNatClampNeg) (sc (v4 + 2).toNatClampNeg) h b hb hl) me_X11_period vi_RL_31 rfl rfl rfl rfl rfl dL_law_307 (fun r18 => ?_)
  refine s_pop rfl dL_law_310 ?_
  refine s_aload2 2 rfl dL_law_311 ?_
  refine s_aload0 4 rfl dL_law_312 ?_
  refine s_iload 0 rfl dL_law_313 ?_
  refine s_k1 dL_law_315 ?_
  refine s_iadd dL_law_316 ?_
  refine s_sld hX q16 dL_law_317 ?_
  refine s_aload0 4 rfl dL_law_318 ?_
  refine s_iload 0 rfl dL_law_319 ?_
  refine s_k2 dL_law_321 ?_
  refine s_iadd dL_law_322 ?_
  refine s_sld hX q17 dL_law_323 ?_
  refine s_viI [.inl (sc (v4 + 1).toNatClampNeg), .inl (sc (v4 + 2).toNatClampNeg)] (fun l b hb hl => cf_X12_period G l (sc (v4 + 1).toNatClampNeg) (sc (v4 + 2).toNatClampNeg) r18.2 b hb hl) me_X12_period vi_RL_35 rfl rfl rfl rfl rfl dL_law_324 (fun r19 => ?_)
  refine s_pop rfl dL_law_327 ?_
  refine s_goto (tgt := 1466) dL_law_328 (by decide) ?_
  refine s_iincw 6 (by decide) 0 [(4, .inl (v4 + 6)), (3, .inr (.inr (98, 0))), (2, .inr (.inr (12, 0))), (1, .inr (.inr (11, 0))), (0, .inr (.inr (99, 0)))] rfl rfl rfl dL_law_1466 ?_
  refine s_goto (tgt := 23) dL_law_1469 (by decide) ?_
  exact s_loc [0, 1, 2, 3, 4] rfl (hkb _ (Or.inl rfl) (v4 + 6) r19.2)
set_option maxRecDepth 20000 in
theorem sf_L_331 {G : mG} {X : mX} {b n k : Nat} {sc : Nat → Int32} {kb : Int32 → mH → Option mH} (hX : lwX G X b n sc (k + 1)) (hkb : lwK G X kb) (v4 : Int32) (h : mH) : lwS G X (f_L_331 sc n kb v4 h) 331 [(4, .inl v4), (3, .inr (.inr (98, 0))), (2, .inr (.inr (12, 0))), (1, .inr (.inr (11, 0))), (0, .inr (.inr (99, 0)))] h := by
  unfold f_L_331
  refine s_aload1 3 rfl dL_law_331 ?_
  refine s_aload0 4 rfl dL_law_332 ?_
  refine s_iload 0 rfl dL_law_333 ?_
  refine s_k1 dL_law_335 ?_
  refine s_iadd dL_law_336 ?_
  refine s_chk (fun q21 => ?_)
  refine s_sld hX q21 dL_law_337 ?_
  refine s_aload0 4 rfl dL_law_338 ?_
  refine s_iload 0 rfl dL_law_339 ?_
  refine s_k2 dL_law_341 ?_
  refine s_iadd dL_law_342 ?_
  refine s_chk (fun q22 => ?_)
  refine s_sld hX q22 dL_law_343 ?_
  refine s_viI [.inl (sc (v4 + 1).toNatClampNeg), .inl (sc (v4 + 2).toNatClampNeg)] (fun l b hb hl => cf_X11_done G l (sc (v4 + 1).toNatClampNeg) (sc (v4 + 2).toNatClampNeg) h b hb hl) me_X11_done vi_RL_36 rfl rfl rfl rfl rfl dL_law_344 (fun r23 => ?_)
  refine s_pop rfl dL_law_347 ?_
  refine s_aload2 2 rfl dL_law_348 ?_
  refine s_aload0 4 rfl dL_law_349 ?_
  refine s_iload 0 rfl dL_law_350 ?_
  refine s_k1 dL_law_352 ?_
  refine s_iadd dL_law_353 ?_
  refine s_sld hX q21 dL_law_354 ?_
  refine s_aload0 4 rfl dL_law_355 ?_
  refine s_iload 0 rfl dL_law_356 ?_
  refine s_k2 dL_law_358 ?_
  refine s_iadd dL_law_359 ?_
  refine s_sld hX q22 dL_law_360 ?_
  refine s_viI [.inl (sc (v4 + 1).toNatClampNeg), .inl (sc (v4 + 2).toNatClampNeg)] (fun l b hb hl => cf_X12_done G l (sc (v4 + 1).toNatClampNeg) (sc (v4 + 2).toNatClampNeg) r23.2 b hb hl) me_X12_done vi_RL_39 rfl rfl rfl rfl rfl dL_law_361 (fun r24 => ?_)
  refine s_pop rfl dL_law_364 ?_
  refine s_goto (tgt := 1466) dL_law_365 (by decide) ?_
  refine s_iincw 6 (by decide) 0 [(4, .inl (v4 + 6)), (3, .inr (.inr (98, 0))), (2, .inr (.inr (12, 0))), (1, .inr (.inr (11, 0))), (0, .inr (.inr (99, 0)))] rfl rfl rfl dL_law_1466 ?_
  refine s_goto (tgt := 23) dL_law_1469 (by decide) ?_
  exact s_loc [0, 1, 2, 3, 4] rfl (hkb _ (Or.inl rfl) (v4 + 6) r24.2)
set_option maxRecDepth 20000 in
theorem sf_L_368 {G : mG} {X : mX} {b n k : Nat} {sc : Nat → Int32} {kb : Int32 → mH → Option mH} (hX : lwX G X b n sc (k + 1)) (hkb : lwK G X kb) (v4 : Int32) (h : mH) : lwS G X (f_L_368 sc n kb v4 h) 368 [(4, .inl v4), (3, .inr (.inr (98, 0))), (2, .inr (.inr (12, 0))), (1, .inr (.inr (11, 0))), (0, .inr (.inr (99, 0)))] h := by
  unfold f_L_368
  refine s_aload1 3 rfl dL_law_368 ?_
  refine s_aload0 4 rfl dL_law_369 ?_
  refine s_iload 0 rfl dL_law_370 ?_
  refine s_k1 dL_law_372 ?_
  refine s_iadd dL_law_373 ?_
  refine s_chk (fun q26 => ?_)
  refine s_sld hX q26 dL_law_374 ?_
  refine s_aload0 4 rfl dL_law_375 ?_
  refine s_iload 0 rfl dL_law_376 ?_
  refine s_k2 dL_law_378 ?_
  refine s_iadd dL_law_379 ?_
  refine s_chk (fun q27 => ?_)
  refine s_sld hX q27 dL_law_380 ?_
  refine s_aload0 4 rfl dL_law_381 ?_
  refine s_iload 0 rfl dL_law_382 ?_
  refine s_k3 dL_law_384 ?_
  refine s_iadd dL_law_385 ?_
  refine s_chk (fun q28 => ?_)
  refine s_sld hX q28 dL_law_386 ?_
  refine s_aload0 4 rfl dL_law_387 ?_
  refine s_iload 0 rfl dL_law_388 ?_
  refine s_k4 dL_law_390 ?_
  refine s_iadd dL_law_391 ?_
  refine s_chk (fun q29 => ?_)
  refine s_sld hX q29 dL_law_392 ?_
  refine s_viI [.inl (sc (v4 + 1).toNatClampNeg), .inl (sc (v4 + 2).toNatClampNeg), .inl (sc (v4 + 3).toNatClampNeg), .inl (sc (v4 + 4).toNatClampNeg)] (fun l b hb hl => cf_X11_law G l (sc (v4 + 1).toNatClampNeg) (sc (v4 + 2).toNatClampNeg) (sc (v4 + 3).toNatClampNeg) (sc (v4 + 4).toNatClampNeg) h b hb hl) me_X11_law vi_RL_40 rfl rfl rfl rfl rfl dL_law_393 (fun r30 => ?_)
  refine s_pop rfl dL_law_396 ?_
  refine s_aload2 2 rfl dL_law_397 ?_
  refine s_aload0 4 rfl dL_law_398 ?_
  refine s_iload 0 rfl dL_law_399 ?_
  refine s_k1 dL_law_401 ?_
  refine s_iadd dL_law_402 ?_
  refine s_sld hX q26 dL_law_403 ?_
  refine s_aload0 4 rfl dL_law_404 ?_
  refine s_iload 0 rfl dL_law_405 ?_
  refine s_k2 dL_law_407 ?_
  refine s_iadd dL_law_408 ?_
  refine s_sld hX q27 dL_law_409 ?_
  refine s_aload0 4 rfl dL_law_410 ?_
  refine s_iload 0 rfl dL_law_411 ?_
  refine s_k3 dL_law_413 ?_
  refine s_iadd dL_law_414 ?_
  refine s_sld hX q28 dL_law_415 ?_
  refine s_aload0 4 rfl dL_law_416 ?_
  refine s_iload 0 rfl dL_law_417 ?_
  refine s_k4 dL_law_419 ?_
  refine s_iadd dL_law_420 ?_
  refine s_sld hX q29 dL_law_421 ?_
  refine s_viI [.inl (sc (v4 + 1).toNatClampNeg), .inl (sc (v4 + 2).toNatClampNeg), .inl (sc (v4 + 3).toNatClampNeg), .inl (sc (v4 + 4).toNatClampNeg)] (fun l b hb hl => cf_X12_law G l (sc (v4 + 1).toNatClampNeg) (sc (v4 + 2).toNatClampNeg) (sc (v4 + 3).toNatClampNeg) (sc (v4 + 4).toNatClampNeg) r30.2 b hb hl) me_X12_law vi_RL_44 rfl rfl rfl rfl rfl dL_law_422 (fun r31 => ?_)
  refine s_pop rfl dL_law_425 ?_
  refine s_goto (tgt := 1466) dL_law_426 (by decide) ?_
  refine s_iincw 6 (by decide) 0 [(4, .inl (v4 + 6)), (3, .inr (.inr (98, 0))), (2, .inr (.inr (12, 0))), (1, .inr (.inr (11, 0))), (0, .inr (.inr (99, 0)))] rfl rfl rfl dL_law_1466 ?_
  refine s_goto (tgt := 23) dL_law_1469 (by decide) ?_
  exact s_loc [0, 1, 2, 3, 4] rfl (hkb _ (Or.inl rfl) (v4 + 6) r31.2)
set_option maxRecDepth 20000 in
theorem sf_L_429 {G : mG} {X : mX} {b n k : Nat} {sc : Nat → Int32} {kb : Int32 → mH → Option mH} (hX : lwX G X b n sc (k + 1)) (hkb : lwK G X kb) (v4 : Int32) (h : mH) : lwS G X (f_L_429 sc n kb v4 h) 429 [(4, .inl v4), (3, .inr (.inr (98, 0))), (2, .inr (.inr (12, 0))), (1, .inr (.inr (11, 0))), (0, .inr (.inr (99, 0)))] h := by
  unfold f_L_429
  refine s_aload1 3 rfl dL_law_429 ?_
  refine s_viI [] (fun l b hb hl => cf_X11_act G l  h b hb hl) me_X11_act vi_RL_45 rfl rfl rfl rfl rfl dL_law_430 (fun r33 => ?_)
  refine s_pop rfl dL_law_433 ?_
  refine s_aload2 2 rfl dL_law_434 ?_
  refine s_viI [] (fun l b hb hl => cf_X12_act G l  r33.2 b hb hl) me_X12_act vi_RL_49 rfl rfl rfl rfl rfl dL_law_435 (fun r34 => ?_)
  refine s_pop rfl dL_law_438 ?_
  refine s_goto (tgt := 1466) dL_law_439 (by decide) ?_
  refine s_iincw 6 (by decide) 0 [(4, .inl (v4 + 6)), (3, .inr (.inr (98, 0))), (2, .inr (.inr (12, 0))), (1, .inr (.inr (11, 0))), (0, .inr (.inr (99, 0)))] rfl rfl rfl dL_law_1466 ?_
  refine s_goto (tgt := 23) dL_law_1469 (by decide) ?_
  exact s_loc [0, 1, 2, 3, 4] rfl (hkb _ (Or.inl rfl) (v4 + 6) r34.2)
set_option maxRecDepth 20000 in
theorem sf_L_442 {G : mG} {X : mX} {b n k : Nat} {sc : Nat → Int32} {kb : Int32 → mH → Option mH} (hX : lwX G X b n sc (k + 1)) (hkb : lwK G X kb) (v4 : Int32) (h : mH) : lwS G X (f_L_442 sc n kb v4 h) 442 [(4, .inl v4), (3, .inr (.inr (98, 0))), (2, .inr (.inr (12, 0))), (1, .inr (.inr (11, 0))), (0, .inr (.inr (99, 0)))] h := by
  unfold f_L_442
  refine s_aload1 3 rfl dL_law_442 ?_
  refine s_aload0 4 rfl dL_law_443 ?_
  refine s_iload 0 rfl dL_law_444 ?_
  refine s_k1 dL_law_446 ?_
  refine s_iadd dL_law_447 ?_
  refine s_chk (fun q36 => ?_)
  refine s_sld hX q36 dL_law_448 ?_
  refine s_aload0 4 rfl dL_law_449 ?_
  refine s_iload 0 rfl dL_law_450 ?_
  refine s_k2 dL_law_452 ?_
  refine s_iadd dL_law_453 ?_
  refine s_chk (fun q37 => ?_)
  refine s_sld hX q37 dL_law_454 ?_
  refine s_aload0 4 rfl dL_law_455 ?_
  refine s_iload 0 rfl dL_law_456 ?_
  refine s_k3 dL_law_458 ?_
  refine s_iadd dL_law_459 ?_
  refine s_chk (fun q38 => ?_)
  refine s_sld hX q38 dL_law_460 ?_
  refine s_aload0 4 rfl dL_law_461 ?_
  refine s_iload 0 rfl dL_law_462 ?_
  refine s_k4 dL_law_464 ?_
  refine s_iadd dL_law_465 ?_
  refine s_chk (fun q39 => ?_)
  refine s_sld hX q39 dL_law_466 ?_
  refine s_aload0 4 rfl dL_law_467 ?_
  refine s_iload 0 rfl dL_law_468 ?_
  refine s_k5 dL_law_470 ?_
  refine s_iadd dL_law_471 ?_
  refine s_chk (fun q40 => ?_)
  refine s_sld hX q40 dL_law_472 ?_
  refine s_viI [.inl (sc (v4 + 1).toNatClampNeg), .inl (sc (v4 + 2).toNatClampNeg), .inl (sc (v4 + 3).toNatClampNeg), .inl (sc (v4 + 4).toNatClampNeg), .inl (sc (v4 + 5).toNatClampNeg)] (fun l b hb hl => cf_X11_step G l (sc (v4 + 1).toNatClampNeg) (sc (v4 + 2).toNatClampNeg) (sc (v4 + 3).toNatClampNeg) (sc (v4 + 4).toNatClampNeg) (sc (v4 + 5).toNatClampNeg) h b hb hl) me_X11_step vi_RL_50 rfl rfl rfl rfl rfl dL_law_473 (fun r41 => ?_)
  refine s_pop rfl dL_law_476 ?_
  refine s_aload2 2 rfl dL_law_477 ?_
  refine s_aload0 4 rfl dL_law_478 ?_
  refine s_iload 0 rfl dL_law_479 ?_
  refine s_k1 dL_law_481 ?_
  refine s_iadd dL_law_482 ?_
  refine s_sld hX q36 dL_law_483 ?_
  refine s_aload0 4 rfl dL_law_484 ?_
  refine s_iload 0 rfl dL_law_485 ?_
  refine s_k2 dL_law_487 ?_
  refine s_iadd dL_law_488 ?_
  refine s_sld hX q37 dL_law_489 ?_
  refine s_aload0 4 rfl dL_law_490 ?_
  refine s_iload 0 rfl dL_law_491 ?_
  refine s_k3 dL_law_493 ?_
  refine s_iadd dL_law_494 ?_
  refine s_sld hX q38 dL_law_495 ?_
  refine s_aload0 4 rfl dL_law_496 ?_
  refine s_iload 0 rfl dL_law_497 ?_
  refine s_k4 dL_law_499 ?_
  refine s_iadd dL_law_500 ?_
  refine s_sld hX q39 dL_law_501 ?_
  refine s_aload0 4 rfl dL_law_502 ?_
  refine s_iload 0 rfl dL_law_503 ?_
  refine s_k5 dL_law_505 ?_
  refine s_iadd dL_law_506 ?_
  refine s_sld hX q40 dL_law_507 ?_
  refine s_viI [.inl (sc (v4 + 1).toNatClampNeg), .inl (sc (v4 + 2).toNatClampNeg), .inl (sc (v4 + 3).toNatClampNeg), .inl (sc (v4 + 4).toNatClampNeg), .inl (sc (v4 + 5).toNatClampNeg)] (fun l b hb hl => cf_X12_step G l (sc (v4 + 1).toNatClampNeg) (sc (v4 + 2).toNatClampNeg) (sc (v4 + 3).toNatClampNeg) (sc (v4 + 4).toNatClampNeg) (sc (v4 + 5).toNatClampNeg) r41.2 b hb hl) me_X12_step vi_RL_53 rfl rfl rfl rfl rfl dL_law_508 (fun r42 => ?_)
  refine s_pop rfl dL_law_511 ?_
  refine s_goto (tgt := 1466) dL_law_512 (by decide) ?_
  refine s_iincw 6 (by decide) 0 [(4, .inl (v4 + 6)), (3, .inr (.inr (98, 0))), (2, .inr (.inr (12, 0))), (1, .inr (.inr (11, 0))), (0, .inr (.inr (99, 0)))] rfl rfl rfl dL_law_1466 ?_
  refine s_goto (tgt := 23) dL_law_1469 (by decide) ?_
  exact s_loc [0, 1, 2, 3, 4] rfl (hkb _ (Or.inl rfl) (v4 + 6) r42.2)
set_option maxRecDepth 20000 in
theorem sf_L_515 {G : mG} {X : mX} {b n k : Nat} {sc : Nat → Int32} {kb : Int32 → mH → Option mH} (hX : lwX G X b n sc (k + 1)) (hkb : lwK G X kb) (v4 : Int32) (h : mH) : lwS G X (f_L_515 sc n kb v4 h) 515 [(4, .inl v4), (3, .inr (.inr (98, 0))), (2, .inr (.inr (12, 0))), (1, .inr (.inr (11, 0))), (0, .inr (.inr (99, 0)))] h := by
  unfold f_L_515
  refine s_aload1 3 rfl dL_law_515 ?_
  refine s_aload0 4 rfl dL_law_516 ?_
  refine s_iload 0 rfl dL_law_517 ?_
  refine s_k1 dL_law_519 ?_
  refine s_iadd dL_law_520 ?_
  refine s_chk (fun q44 => ?_)
  refine s_sld hX q44 dL_law_521 ?_
  refine s_viI [.inl (sc (v4 + 1).toNatClampNeg)] (fun l b hb hl => cf_X11_bare G l (sc (v4 + 1).toNatClampNeg) h b hb hl) me_X11_bare vi_RL_54 rfl rfl rfl rfl rfl dL_law_522 (fun r45 => ?_)
  refine s_pop rfl dL_law_525 ?_
  refine s_aload2 2 rfl dL_law_526 ?_
  refine s_aload0 4 rfl dL_law_527 ?_
  refine s_iload 0 rfl dL_law_528 ?_
  refine s_k1 dL_law_530 ?_
  refine s_iadd dL_law_531 ?_
  refine s_sld hX q44 dL_law_532 ?_
  refine s_viI [.inl (sc (v4 + 1).toNatClampNeg)] (fun l b hb hl => cf_X12_bare G l (sc (v4 + 1).toNatClampNeg) r45.2 b hb hl) me_X12_bare vi_RL_57 rfl rfl rfl rfl rfl dL_law_533 (fun r46 => ?_)
  refine s_pop rfl dL_law_536 ?_
  refine s_goto (tgt := 1466) dL_law_537 (by decide) ?_
  refine s_iincw 6 (by decide) 0 [(4, .inl (v4 + 6)), (3, .inr (.inr (98, 0))), (2, .inr (.inr (12, 0))), (1, .inr (.inr (11, 0))), (0, .inr (.inr (99, 0)))] rfl rfl rfl dL_law_1466 ?_
  refine s_goto (tgt := 23) dL_law_1469 (by decide) ?_
  exact s_loc [0, 1, 2, 3, 4] rfl (hkb _ (Or.inl rfl) (v4 + 6) r46.2)
set_option maxRecDepth 20000 in
theorem sf_L_540 {G : mG} {X : mX} {b n k : Nat} {sc : Nat → Int32} {kb : Int32 → mH → Option mH} (hX : lwX G X b n sc (k + 1)) (hkb : lwK G X kb) (v4 : Int32) (h : mH) : lwS G X (f_L_540 sc n kb v4 h) 540 [(4, .inl v4), (3, .inr (.inr (98, 0))), (2, .inr (.inr (12, 0))), (1, .inr (.inr (11, 0))), (0, .inr (.inr (99, 0)))] h := by
  unfold f_L_540
  refine s_aload1 3 rfl dL_law_540 ?_
  refine s_aload0 4 rfl dL_law_541 ?_
  refine s_iload 0 rfl dL_law_542 ?_
  refine s_k1 dL_law_544 ?_
  refine s_iadd dL_law_545 ?_
  refine s_chk (fun q48 => ?_)
  refine s_sld hX q48 dL_law_546 ?_
  refine s_aload0 4 rfl dL_law_547 ?_
  refine s_iload 0 rfl dL_law_548 ?_
  refine s_k2 dL_law_550 ?_
  refine s_iadd dL_law_551 ?_
  refine s_chk (fun q49 => ?_)
  refine s_sld hX q49 dL_law_552 ?_
  refine s_viI [.inl (sc (v4 + 1).toNatClampNeg), .inl (sc (v4 + 2).toNatClampNeg)] (fun l b hb hl => cf_X11_handler G l (sc (v4 + 1).toNatClampNeg) (sc (v4 + 2).toNatClampNeg) h b hb hl) me_X11_handler vi_RL_58 rfl rfl rfl rfl rfl dL_law_553 (fun r50 => ?_)
  refine s_pop rfl dL_law_556 ?_
  refine s_aload2 2 rfl dL_law_557 ?_
  refine s_aload0 4 rfl dL_law_558 ?_
  refine s_iload 0 rfl dL_law_559 ?_
  refine s_k1 dL_law_561 ?_
  refine s_iadd dL_law_562 ?_
  refine s_sld hX q48 dL_law_563 ?_
  refine s_aload0 4 rfl dL_law_564 ?_
  refine s_iload 0 rfl dL_law_565 ?_
  refine s_k2 dL_law_567 ?_
  refine s_iadd dL_law_568 ?_
  refine s_sld hX q49 dL_law_569 ?_
  refine s_viI [.inl (sc (v4 + 1).toNatClampNeg), .inl (sc (v4 + 2).toNatClampNeg)] (fun l b hb hl => cf_X12_handler G l (sc (v4 + 1).toNatClampNeg) (sc (v4 + 2).toNatClampNeg) r50.2 b hb hl) me_X12_handler vi_RL_61 rfl rfl rfl rfl rfl dL_law_570 (fun r51 => ?_)
  refine s_pop rfl dL_law_573 ?_
  refine s_goto (tgt := 1466) dL_law_574 (by decide) ?_
  refine s_iincw 6 (by decide) 0 [(4, .inl (v4 + 6)), (3, .inr (.inr (98, 0))), (2, .inr (.inr (12, 0))), (1, .inr (.inr (11, 0))), (0, .inr (.inr (99, 0)))] rfl rfl rfl dL_law_1466 ?_
  refine s_goto (tgt := 23) dL_law_1469 (by decide) ?_
  exact s_loc [0, 1, 2, 3, 4] rfl (hkb _ (Or.inl rfl) (v4 + 6) r51.2)
set_option maxRecDepth 20000 in
theorem sf_L_577 {G : mG} {X : mX} {b n k : Nat} {sc : Nat → Int32} {kb : Int32 → mH → Option mH} (hX : lwX G X b n sc (k + 1)) (hkb : lwK G X kb) (v4 : Int32) (h : mH) : lwS G X (f_L_577 sc n kb v4 h) 577 [(4, .inl v4), (3, .inr (.inr (98, 0))), (2, .inr (.inr (12, 0))), (1, .inr (.inr (11, 0))), (0, .inr (.inr (99, 0)))] h := by
  unfold f_L_577
  refine s_aload1 3 rfl dL_law_577 ?_
  refine s_aload0 4 rfl dL_law_578 ?_
  refine s_iload 0 rfl dL_law_579 ?_
  refine s_k1 dL_law_581 ?_
  refine s_iadd dL_law_582 ?_
  refine s_chk (fun q53 => ?_)
  refine s_sld hX q53 dL_law_583 ?_
  refine s_viI [.inl (sc (v4 + 1).toNatClampNeg)] (fun l b hb hl => cf_X11_locks G l (sc (v4 + 1).toNatClampNeg) h b hb hl) me_X11_locks vi_RL_62 rfl rfl rfl rfl rfl dL_law_584 (fun r54 => ?_)
  refine s_pop rfl dL_law_587 ?_
  refine s_aload2 2 rfl dL_law_588 ?_
  refine s_aload0 4 rfl dL_law_589 ?_
  refine s_iload 0 rfl dL_law_590 ?_
  refine s_k1 dL_law_592 ?_
  refine s_iadd dL_law_593 ?_
  refine s_sld hX q53 dL_law_594 ?_
  refine s_viI [.inl (sc (v4 + 1).toNatClampNeg)] (fun l b hb hl => cf_X12_locks G l (sc (v4 + 1).toNatClampNeg) r54.2 b hb hl) me_X12_locks vi_RL_65 rfl rfl rfl rfl rfl dL_law_595 (fun r55 => ?_)
  refine s_pop rfl dL_law_598 ?_
  refine s_goto (tgt := 1466) dL_law_599 (by decide) ?_
  refine s_iincw 6 (by decide) 0 [(4, .inl (v4 + 6)), (3, .inr (.inr (98, 0))), (2, .inr (.inr (12, 0))), (1, .inr (.inr (11, 0))), (0, .inr (.inr (99, 0)))] rfl rfl rfl dL_law_1466 ?_
  refine s_goto (tgt := 23) dL_law_1469 (by decide) ?_
  exact s_loc [0, 1, 2, 3, 4] rfl (hkb _ (Or.inl rfl) (v4 + 6) r55.2)
set_option maxRecDepth 20000 in
theorem sf_L_602 {G : mG} {X : mX} {b n k : Nat} {sc : Nat → Int32} {kb : Int32 → mH → Option mH} (hX : lwX G X b n sc (k + 1)) (hkb : lwK G X kb) (v4 : Int32) (h : mH) : lwS G X (f_L_602 sc n kb v4 h) 602 [(4, .inl v4), (3, .inr (.inr (98, 0))), (2, .inr (.inr (12, 0))), (1, .inr (.inr (11, 0))), (0, .inr (.inr (99, 0)))] h := by
  unfold f_L_602
  refine s_aload1 3 rfl dL_law_602 ?_
  refine s_aload0 4 rfl dL_law_603 ?_
  refine s_iload 0 rfl dL_law_604 ?_
  refine s_k1 dL_law_606 ?_
  refine s_iadd dL_law_607 ?_
  refine s_chk (fun q57 => ?_)
  refine s_sld hX q57 dL_law_608 ?_
  refine s_viI [.inl (sc (v4 + 1).toNatClampNeg)] (fun l b hb hl => cf_X11_code G l (sc (v4 + 1).toNatClampNeg) h b hb hl) me_X11_code vi_RL_66 rfl rfl rfl rfl rfl dL_law_609 (fun r58 => ?_)
  refine s_pop rfl dL_law_612 ?_
  refine s_aload2 2 rfl dL_law_613 ?_
  refine s_aload0 4 rfl dL_law_614 ?_
  refine s_iload 0 rfl dL_law_615 ?_
  refine s_k1 dL_law_617 ?_
  refine s_iadd dL_law_618 ?_
  refine s_sld hX q57 dL_law_619 ?_
  refine s_viI [.inl (sc (v4 + 1).toNatClampNeg)] (fun l b hb hl => cf_X12_code G l (sc (v4 + 1).toNatClampNeg) r58.2 b hb hl) me_X12_code vi_RL_69 rfl rfl rfl rfl rfl dL_law_620 (fun r59 => ?_)
  refine s_pop rfl dL_law_623 ?_
  refine s_goto (tgt := 1466) dL_law_624 (by decide) ?_
  refine s_iincw 6 (by decide) 0 [(4, .inl (v4 + 6)), (3, .inr (.inr (98, 0))), (2, .inr (.inr (12, 0))), (1, .inr (.inr (11, 0))), (0, .inr (.inr (99, 0)))] rfl rfl rfl dL_law_1466 ?_
  refine s_goto (tgt := 23) dL_law_1469 (by decide) ?_
  exact s_loc [0, 1, 2, 3, 4] rfl (hkb _ (Or.inl rfl) (v4 + 6) r59.2)
set_option maxRecDepth 20000 in
theorem sf_L_627 {G : mG} {X : mX} {b n k : Nat} {sc : Nat → Int32} {kb : Int32 → mH → Option mH} (hX : lwX G X b n sc (k + 1)) (hkb : lwK G X kb) (v4 : Int32) (h : mH) : lwS G X (f_L_627 sc n kb v4 h) 627 [(4, .inl v4), (3, .inr (.inr (98, 0))), (2, .inr (.inr (12, 0))), (1, .inr (.inr (11, 0))), (0, .inr (.inr (99, 0)))] h := by
  unfold f_L_627
  refine s_aload1 3 rfl dL_law_627 ?_
  refine s_aload0 4 rfl dL_law_628 ?_
  refine s_iload 0 rfl dL_law_629 ?_
  refine s_k1 dL_law_631 ?_
  refine s_iadd dL_law_632 ?_
  refine s_chk (fun q61 => ?_)
  refine s_sld hX q61 dL_law_633 ?_
  refine s_aload0 4 rfl dL_law_634 ?_
  refine s_iload 0 rfl dL_law_635 ?_
  refine s_k2 dL_law_637 ?_
  refine s_iadd dL_law_638 ?_
  refine s_chk (fun q62 => ?_)
  refine s_sld hX q62 dL_law_639 ?_
  refine s_aload0 4 rfl dL_law_640 ?_
  refine s_iload 0 rfl dL_law_641 ?_
  refine s_k3 dL_law_643 ?_
  refine s_iadd dL_law_644 ?_
  refine s_chk (fun q63 => ?_)
  refine s_sld hX q63 dL_law_645 ?_
  refine s_viI [.inl (sc (v4 + 1).toNatClampNeg), .inl (sc (v4 + 2).toNatClampNeg), .inl (sc (v4 + 3).toNatClampNeg)] (fun l b hb hl => cf_X11_op G l (sc (v4 + 1).toNatClampNeg) (sc (v4 + 2).toNatClampNeg) (sc (v4 + 3).toNatClampNeg) h b hb hl) me_X11_op vi_RL_70 rfl rfl rfl rfl rfl dL_law_646 (fun r64 => ?_)
  refine s_pop rfl dL_law_649 ?_
  refine s_aload2 2 rfl dL_law_650 ?_
  refine s_aload0 4 rfl dL_law_651 ?_
  refine s_iload 0 rfl dL_law_652 ?_
  refine s_k1 dL_law_654 ?_
  refine s_iadd dL_law_655 ?_
  refine s_sld hX q61 dL_law_656 ?_
  refine s_aload0 4 rfl dL_law_657 ?_
  refine s_iload 0 rfl dL_law_658 ?_
  refine s_k2 dL_law_660 ?_
  refine s_iadd dL_law_661 ?_
  refine s_sld hX q62 dL_law_662 ?_
  refine s_aload0 4 rfl dL_law_663 ?_
  refine s_iload 0 rfl dL_law_664 ?_
  refine s_k3 dL_law_666 ?_
  refine s_iadd dL_law_667 ?_
  refine s_sld hX q63 dL_law_668 ?_
  refine s_viI [.inl (sc (v4 + 1).toNatClampNeg), .inl (sc (v4 + 2).toNatClampNeg), .inl (sc (v4 + 3).toNatClampNeg)] (fun l b hb hl => cf_X12_op G l (sc (v4 + 1).toNatClampNeg) (sc (v4 + 2).toNatClampNeg) (sc (v4 + 3).toNatClampNeg) r64.2 b hb hl) me_X12_op vi_RL_74 rfl rfl rfl rfl rfl dL_law_669 (fun r65 => ?_)
  refine s_pop rfl dL_law_672 ?_
  refine s_goto (tgt := 1466) dL_law_673 (by decide) ?_
  refine s_iincw 6 (by decide) 0 [(4, .inl (v4 + 6)), (3, .inr (.inr (98, 0))), (2, .inr (.inr (12, 0))), (1, .inr (.inr (11, 0))), (0, .inr (.inr (99, 0)))] rfl rfl rfl dL_law_1466 ?_
  refine s_goto (tgt := 23) dL_law_1469 (by decide) ?_
  exact s_loc [0, 1, 2, 3, 4] rfl (hkb _ (Or.inl rfl) (v4 + 6) r65.2)
set_option maxRecDepth 20000 in
theorem sf_L_676 {G : mG} {X : mX} {b n k : Nat} {sc : Nat → Int32} {kb : Int32 → mH → Option mH} (hX : lwX G X b n sc (k + 1)) (hkb : lwK G X kb) (v4 : Int32) (h : mH) : lwS G X (f_L_676 sc n kb v4 h) 676 [(4, .inl v4), (3, .inr (.inr (98, 0))), (2, .inr (.inr (12, 0))), (1, .inr (.inr (11, 0))), (0, .inr (.inr (99, 0)))] h := by
  unfold f_L_676
  refine s_aload1 3 rfl dL_law_676 ?_
  refine s_aload0 4 rfl dL_law_677 ?_
  refine s_iload 0 rfl dL_law_678 ?_
  refine s_k1 dL_law_680 ?_
  refine s_iadd dL_law_681 ?_
  refine s_chk (fun q67 => ?_)
  refine s_sld hX q67 dL_law_682 ?_
  refine s_aload0 4 rfl dL_law_683 ?_
  refine s_iload 0 rfl dL_law_684 ?_
  refine s_k2 dL_law_686 ?_
  refine s_iadd dL_law_687 ?_
  refine s_chk (fun q68 => ?_)
  refine s_sld hX q68 dL_law_688 ?_
  refine s_viI [.inl (sc (v4 + 1).toNatClampNeg), .inl (sc (v4 + 2).toNatClampNeg)] (fun l b hb hl => cf_X11_same G l (sc (v4 + 1).toNatClampNeg) (sc (v4 + 2).toNatClampNeg) h b hb hl) me_X11_same vi_RL_75 rfl rfl rfl rfl rfl dL_law_689 (fun r69 => ?_)
  refine s_aload2 2 rfl dL_law_692 ?_
  refine s_aload0 4 rfl dL_law_693 ?_
  refine s_iload 0 rfl dL_law_694 ?_
  refine s_k1 dL_law_696 ?_
  refine s_iadd dL_law_697 ?_
  refine s_sld hX q67 dL_law_698 ?_
  refine s_aload0 4 rfl dL_law_699 ?_
  refine s_iload 0 rfl dL_law_700 ?_
  refine s_k2 dL_law_702 ?_
  refine s_iadd dL_law_703 ?_
  refine s_sld hX q68 dL_law_704 ?_
  refine s_viI [.inl (sc (v4 + 1).toNatClampNeg), .inl (sc (v4 + 2).toNatClampNeg)] (fun l b hb hl => cf_X12_same G l (sc (v4 + 1).toNatClampNeg) (sc (v4 + 2).toNatClampNeg) r69.2 b hb hl) me_X12_same vi_RL_78 rfl rfl rfl rfl rfl dL_law_705 (fun r70 => ?_)
  refine s_ic_eq (tgt := 1466) dL_law_708 (by decide) (fun q71 => ?_) (fun q71 => ?_)
  · skip
    refine s_iincw 6 (by decide) 0 [(4, .inl (v4 + 6)), (3, .inr (.inr (98, 0))), (2, .inr (.inr (12, 0))), (1, .inr (.inr (11, 0))), (0, .inr (.inr (99, 0)))] rfl rfl rfl dL_law_1466 ?_
    refine s_goto (tgt := 23) dL_law_1469 (by decide) ?_
    exact s_loc [0, 1, 2, 3, 4] rfl (hkb _ (Or.inl rfl) (v4 + 6) r70.2)
  · skip
    refine s_k0 dL_law_711 ?_
    exact s_none
set_option maxRecDepth 20000 in
theorem sf_L_713 {G : mG} {X : mX} {b n k : Nat} {sc : Nat → Int32} {kb : Int32 → mH → Option mH} (hX : lwX G X b n sc (k + 1)) (hkb : lwK G X kb) (v4 : Int32) (h : mH) : lwS G X (f_L_713 sc n kb v4 h) 713 [(4, .inl v4), (3, .inr (.inr (98, 0))), (2, .inr (.inr (12, 0))), (1, .inr (.inr (11, 0))), (0, .inr (.inr (99, 0)))] h := by
  unfold f_L_713
  refine s_aload1 3 rfl dL_law_713 ?_
  refine s_viI [] (fun l b hb hl => cf_X11_power G l  h b hb hl) me_X11_power vi_RL_79 rfl rfl rfl rfl rfl dL_law_714 (fun r73 => ?_)
  refine s_pop rfl dL_law_717 ?_
  refine s_aload2 2 rfl dL_law_718 ?_
  refine s_viI [] (fun l b hb hl => cf_X12_power G l  r73.2 b hb hl) me_X12_power vi_RL_82 rfl rfl rfl rfl rfl dL_law_719 (fun r74 => ?_)
  refine s_pop rfl dL_law_722 ?_
  refine s_goto (tgt := 1466) dL_law_723 (by decide) ?_
  refine s_iincw 6 (by decide) 0 [(4, .inl (v4 + 6)), (3, .inr (.inr (98, 0))), (2, .inr (.inr (12, 0))), (1, .inr (.inr (11, 0))), (0, .inr (.inr (99, 0)))] rfl rfl rfl dL_law_1466 ?_
  refine s_goto (tgt := 23) dL_law_1469 (by decide) ?_
  exact s_loc [0, 1, 2, 3, 4] rfl (hkb _ (Or.inl rfl) (v4 + 6) r74.2)
set_option maxRecDepth 20000 in
theorem sf_L_726 {G : mG} {X : mX} {b n k : Nat} {sc : Nat → Int32} {kb : Int32 → mH → Option mH} (hX : lwX G X b n sc (k + 1)) (hkb : lwK G X kb) (v4 : Int32) (h : mH) : lwS G X (f_L_726 sc n kb v4 h) 726 [(4, .inl v4), (3, .inr (.inr (98, 0))), (2, .inr (.inr (12, 0))), (1, .inr (.inr (11, 0))), (0, .inr (.inr (99, 0)))] h := by
  unfold f_L_726
  refine s_aload1 3 rfl dL_law_726 ?_
  refine s_aload0 4 rfl dL_law_727 ?_
  refine s_iload 0 rfl dL_law_728 ?_
  refine s_k1 dL_law_730 ?_
  refine s_iadd dL_law_731 ?_
  refine s_chk (fun q76 => ?_)
  refine s_sld hX q76 dL_law_732 ?_
  refine s_aload0 4 rfl dL_law_733 ?_
  refine s_iload 0 rfl dL_law_734 ?_
  refine s_k2 dL_law_736 ?_
  refine s_iadd dL_law_737 ?_
  refine s_chk (fun q77 => ?_)
  refine s_sld hX q77 dL_law_738 ?_
  refine s_aload0 4 rfl dL_law_739 ?_
  refine s_iload 0 rfl dL_law_740 ?_
  refine s_k3 dL_law_742 ?_
  refine s_iadd dL_law_743 ?_
  refine s_chk (fun q78 => ?_)
  refine s_sld hX q78 dL_law_744 ?_
  refine s_viI [.inl (sc (v4 + 1).toNatClampNeg), .inl (sc (v4 + 2).toNatClampNeg), .inl (sc (v4 + 3).toNatClampNeg)] (fun l b hb hl => cf_X11_event G l (sc (v4 + 1).toNatClampNeg) (sc (v4 + 2).toNatClampNeg) (sc (v4 + 3).toNatClampNeg) h b hb hl) me_X11_event vi_RL_83 rfl rfl rfl rfl rfl dL_law_745 (fun r79 => ?_)
  refine s_pop rfl dL_law_748 ?_
  refine s_aload2 2 rfl dL_law_749 ?_
  refine s_aload0 4 rfl dL_law_750 ?_
  refine s_iload 0 rfl dL_law_751 ?_
  refine s_k1 dL_law_753 ?_
  refine s_iadd dL_law_754 ?_
  refine s_sld hX q76 dL_law_755 ?_
  refine s_aload0 4 rfl dL_law_756 ?_
  refine s_iload 0 rfl dL_law_757 ?_
  refine s_k2 dL_law_759 ?_
  refine s_iadd dL_law_760 ?_
  refine s_sld hX q77 dL_law_761 ?_
  refine s_aload0 4 rfl dL_law_762 ?_
  refine s_iload 0 rfl dL_law_763 ?_
  refine s_k3 dL_law_765 ?_
  refine s_iadd dL_law_766 ?_
  refine s_sld hX q78 dL_law_767 ?_
  refine s_viI [.inl (sc (v4 + 1).toNatClampNeg), .inl (sc (v4 + 2).toNatClampNeg), .inl (sc (v4 + 3).toNatClampNeg)] (fun l b hb hl => cf_X12_event G l (sc (v4 + 1).toNatClampNeg) (sc (v4 + 2).toNatClampNeg) (sc (v4 + 3).toNatClampNeg) r79.2 b hb hl) me_X12_event vi_RL_86 rfl rfl rfl rfl rfl dL_law_768 (fun r80 => ?_)
  refine s_pop rfl dL_law_771 ?_
  refine s_goto (tgt := 1466) dL_law_772 (by decide) ?_
  refine s_iincw 6 (by decide) 0 [(4, .inl (v4 + 6)), (3, .inr (.inr (98, 0))), (2, .inr (.inr (12, 0))), (1, .inr (.inr (11, 0))), (0, .inr (.inr (99, 0)))] rfl rfl rfl dL_law_1466 ?_
  refine s_goto (tgt := 23) dL_law_1469 (by decide) ?_
  exact s_loc [0, 1, 2, 3, 4] rfl (hkb _ (Or.inl rfl) (v4 + 6) r80.2)
set_option maxRecDepth 20000 in
theorem sf_L_775 {G : mG} {X : mX} {b n k : Nat} {sc : Nat → Int32} {kb : Int32 → mH → Option mH} (hX : lwX G X b n sc (k + 1)) (hkb : lwK G X kb) (v4 : Int32) (h : mH) : lwS G X (f_L_775 sc n kb v4 h) 775 [(4, .inl v4), (3, .inr (.inr (98, 0))), (2, .inr (.inr (12, 0))), (1, .inr (.inr (11, 0))), (0, .inr (.inr (99, 0)))] h := by
  unfold f_L_775
  refine s_aload1 3 rfl dL_law_775 ?_
  refine s_aload0 4 rfl dL_law_776 ?_
  refine s_iload 0 rfl dL_law_777 ?_
  refine s_k1 dL_law_779 ?_
  refine s_iadd dL_law_780 ?_
  refine s_chk (fun q82 => ?_)
  refine s_sld hX q82 dL_law_781 ?_
  refine s_viI [.inl (sc (v4 + 1).toNatClampNeg)] (fun l b hb hl => cf_X11_run G l (sc (v4 + 1).toNatClampNeg) h b hb hl) me_X11_run vi_RL_87 rfl rfl rfl rfl rfl dL_law_782 (fun r83 => ?_)
  refine s_pop rfl dL_law_785 ?_
  refine s_aload2 2 rfl dL_law_786 ?_
  refine s_aload0 4 rfl dL_law_787 ?_
  refine s_iload 0 rfl dL_law_788 ?_
  refine s_k1 dL_law_790 ?_
  refine s_iadd dL_law_791 ?_
  refine s_sld hX q82 dL_law_792 ?_
  refine s_viI [.inl (sc (v4 + 1).toNatClampNeg)] (fun l b hb hl => cf_X12_run G l (sc (v4 + 1).toNatClampNeg) r83.2 b hb hl) me_X12_run vi_RL_90 rfl rfl rfl rfl rfl dL_law_793 (fun r84 => ?_)
  refine s_pop rfl dL_law_796 ?_
  refine s_goto (tgt := 1466) dL_law_797 (by decide) ?_
  refine s_iincw 6 (by decide) 0 [(4, .inl (v4 + 6)), (3, .inr (.inr (98, 0))), (2, .inr (.inr (12, 0))), (1, .inr (.inr (11, 0))), (0, .inr (.inr (99, 0)))] rfl rfl rfl dL_law_1466 ?_
  refine s_goto (tgt := 23) dL_law_1469 (by decide) ?_
  exact s_loc [0, 1, 2, 3, 4] rfl (hkb _ (Or.inl rfl) (v4 + 6) r84.2)
set_option maxRecDepth 20000 in
theorem sf_L_800 {G : mG} {X : mX} {b n k : Nat} {sc : Nat → Int32} {kb : Int32 → mH → Option mH} (hX : lwX G X b n sc (k + 1)) (hkb : lwK G X kb) (v4 : Int32) (h : mH) : lwS G X (f_L_800 sc n kb v4 h) 800 [(4, .inl v4), (3, .inr (.inr (98, 0))), (2, .inr (.inr (12, 0))), (1, .inr (.inr (11, 0))), (0, .inr (.inr (99, 0)))] h := by
  unfold f_L_800
  refine s_aload1 3 rfl dL_law_800 ?_
  refine s_aload0 4 rfl dL_law_801 ?_
  refine s_iload 0 rfl dL_law_802 ?_
  refine s_k1 dL_law_804 ?_
  refine s_iadd dL_law_805 ?_
  refine s_chk (fun q86 => ?_)
  refine s_sld hX q86 dL_law_806 ?_
  refine s_viI [.inl (sc (v4 + 1).toNatClampNeg)] (fun l b hb hl => cf_X11_read G l (sc (v4 + 1).toNatClampNeg) h b hb hl) me_X11_read vi_RL_91 rfl rfl rfl rfl rfl dL_law_807 (fun r87 => ?_)
  refine s_pop rfl dL_law_810 ?_
  refine s_aload2 2 rfl dL_law_811 ?_
  refine s_aload0 4 rfl dL_law_812 ?_
  refine s_iload 0 rfl dL_law_813 ?_
  refine s_k1 dL_law_815 ?_
  refine s_iadd dL_law_816 ?_
  refine s_sld hX q86 dL_law_817 ?_
  refine s_viI [.inl (sc (v4 + 1).toNatClampNeg)] (fun l b hb hl => cf_X12_read G l (sc (v4 + 1).toNatClampNeg) r87.2 b hb hl) me_X12_read vi_RL_94 rfl rfl rfl rfl rfl dL_law_818 (fun r88 => ?_)
  refine s_pop rfl dL_law_821 ?_
  refine s_goto (tgt := 1466) dL_law_822 (by decide) ?_
  refine s_iincw 6 (by decide) 0 [(4, .inl (v4 + 6)), (3, .inr (.inr (98, 0))), (2, .inr (.inr (12, 0))), (1, .inr (.inr (11, 0))), (0, .inr (.inr (99, 0)))] rfl rfl rfl dL_law_1466 ?_
  refine s_goto (tgt := 23) dL_law_1469 (by decide) ?_
  exact s_loc [0, 1, 2, 3, 4] rfl (hkb _ (Or.inl rfl) (v4 + 6) r88.2)
set_option maxRecDepth 20000 in
theorem sf_L_825 {G : mG} {X : mX} {b n k : Nat} {sc : Nat → Int32} {kb : Int32 → mH → Option mH} (hX : lwX G X b n sc (k + 1)) (hkb : lwK G X kb) (v4 : Int32) (h : mH) : lwS G X (f_L_825 sc n kb v4 h) 825 [(4, .inl v4), (3, .inr (.inr (98, 0))), (2, .inr (.inr (12, 0))), (1, .inr (.inr (11, 0))), (0, .inr (.inr (99, 0)))] h := by
  unfold f_L_825
  refine s_aload1 3 rfl dL_law_825 ?_
  refine s_aload0 4 rfl dL_law_826 ?_
  refine s_iload 0 rfl dL_law_827 ?_
  refine s_k1 dL_law_829 ?_
  refine s_iadd dL_law_830 ?_
  refine s_chk (fun q90 => ?_)
  refine s_sld hX q90 dL_law_831 ?_
  refine s_aload0 4 rfl dL_law_832 ?_
  refine s_iload 0 rfl dL_law_833 ?_
  refine s_k2 dL_law_835 ?_
  refine s_iadd dL_law_836 ?_
  refine s_chk (fun q91 => ?_)
  refine s_sld hX q91 dL_law_837 ?_
  refine s_viI [.inl (sc (v4 + 1).toNatClampNeg), .inl (sc (v4 + 2).toNatClampNeg)] (fun l b hb hl => cf_X11_write G l (sc (v4 + 1).toNatClampNeg) (sc (v4 + 2).toNatClampNeg) h b hb hl) me_X11_write vi_RL_95 rfl rfl rfl rfl rfl dL_law_838 (fun r92 => ?_)
  refine s_pop rfl dL_law_841 ?_
  refine s_aload2 2 rfl dL_law_842 ?_
  refine s_aload0 4 rfl dL_law_843 ?_
  refine s_iload 0 rfl dL_law_844 ?_
  refine s_k1 dL_law_846 ?_
  refine s_iadd dL_law_847 ?_
  refine s_sld hX q90 dL_law_848 ?_
  refine s_aload0 4 rfl dL_law_849 ?_
  refine s_iload 0 rfl dL_law_850 ?_
  refine s_k2 dL_law_852 ?_
  refine s_iadd dL_law_853 ?_
  refine s_sld hX q91 dL_law_854 ?_
  refine s_viI [.inl (sc (v4 + 1).toNatClampNeg), .inl (sc (v4 + 2).toNatClampNeg)] (fun l b hb hl => cf_X12_write G l (sc (v4 + 1).toNatClampNeg) (sc (v4 + 2).toNatClampNeg) r92.2 b hb hl) me_X12_write vi_RL_98 rfl rfl rfl rfl rfl dL_law_855 (fun r93 => ?_)
  refine s_pop rfl dL_law_858 ?_
  refine s_goto (tgt := 1466) dL_law_859 (by decide) ?_
  refine s_iincw 6 (by decide) 0 [(4, .inl (v4 + 6)), (3, .inr (.inr (98, 0))), (2, .inr (.inr (12, 0))), (1, .inr (.inr (11, 0))), (0, .inr (.inr (99, 0)))] rfl rfl rfl dL_law_1466 ?_
  refine s_goto (tgt := 23) dL_law_1469 (by decide) ?_
  exact s_loc [0, 1, 2, 3, 4] rfl (hkb _ (Or.inl rfl) (v4 + 6) r93.2)
set_option maxRecDepth 20000 in
theorem sf_L_862 {G : mG} {X : mX} {b n k : Nat} {sc : Nat → Int32} {kb : Int32 → mH → Option mH} (hX : lwX G X b n sc (k + 1)) (hkb : lwK G X kb) (v4 : Int32) (h : mH) : lwS G X (f_L_862 sc n kb v4 h) 862 [(4, .inl v4), (3, .inr (.inr (98, 0))), (2, .inr (.inr (12, 0))), (1, .inr (.inr (11, 0))), (0, .inr (.inr (99, 0)))] h := by
  unfold f_L_862
  refine s_aload1 3 rfl dL_law_862 ?_
  refine s_aload0 4 rfl dL_law_863 ?_
  refine s_iload 0 rfl dL_law_864 ?_
  refine s_k1 dL_law_866 ?_
  refine s_iadd dL_law_867 ?_
  refine s_chk (fun q95 => ?_)
  refine s_sld hX q95 dL_law_868 ?_
  refine s_viI [.inl (sc (v4 + 1).toNatClampNeg)] (fun l b hb hl => cf_X11_wait G l (sc (v4 + 1).toNatClampNeg) h b hb hl) me_X11_wait vi_RL_99 rfl rfl rfl rfl rfl dL_law_869 (fun r96 => ?_)
  refine s_pop rfl dL_law_872 ?_
  refine s_aload2 2 rfl dL_law_873 ?_
  refine s_aload0 4 rfl dL_law_874 ?_
  refine s_iload 0 rfl dL_law_875 ?_
  refine s_k1 dL_law_877 ?_
  refine s_iadd dL_law_878 ?_
  refine s_sld hX q95 dL_law_879 ?_
  refine s_viI [.inl (sc (v4 + 1).toNatClampNeg)] (fun l b hb hl => cf_X12_wait G l (sc (v4 + 1).toNatClampNeg) r96.2 b hb hl) me_X12_wait vi_RL_102 rfl rfl rfl rfl rfl dL_law_880 (fun r97 => ?_)
  refine s_pop rfl dL_law_883 ?_
  refine s_goto (tgt := 1466) dL_law_884 (by decide) ?_
  refine s_iincw 6 (by decide) 0 [(4, .inl (v4 + 6)), (3, .inr (.inr (98, 0))), (2, .inr (.inr (12, 0))), (1, .inr (.inr (11, 0))), (0, .inr (.inr (99, 0)))] rfl rfl rfl dL_law_1466 ?_
  refine s_goto (tgt := 23) dL_law_1469 (by decide) ?_
  exact s_loc [0, 1, 2, 3, 4] rfl (hkb _ (Or.inl rfl) (v4 + 6) r97.2)
set_option maxRecDepth 20000 in
theorem sf_L_887 {G : mG} {X : mX} {b n k : Nat} {sc : Nat → Int32} {kb : Int32 → mH → Option mH} (hX : lwX G X b n sc (k + 1)) (hkb : lwK G X kb) (v4 : Int32) (h : mH) : lwS G X (f_L_887 sc n kb v4 h) 887 [(4, .inl v4), (3, .inr (.inr (98, 0))), (2, .inr (.inr (12, 0))), (1, .inr (.inr (11, 0))), (0, .inr (.inr (99, 0)))] h := by
  unfold f_L_887
  refine s_aload1 3 rfl dL_law_887 ?_
  refine s_aload0 4 rfl dL_law_888 ?_
  refine s_iload 0 rfl dL_law_889 ?_
  refine s_k1 dL_law_891 ?_
  refine s_iadd dL_law_892 ?_
  refine s_chk (fun q99 => ?_)
  refine s_sld hX q99 dL_law_893 ?_
  refine s_aload0 4 rfl dL_law_894 ?_
  refine s_iload 0 rfl dL_law_895 ?_
  refine s_k2 dL_law_897 ?_
  refine s_iadd dL_law_898 ?_
  refine s_chk (fun q100 => ?_)
  refine s_sld hX q100 dL_law_899 ?_
  refine s_viI [.inl (sc (v4 + 1).toNatClampNeg), .inl (sc (v4 + 2).toNatClampNeg)] (fun l b hb hl => cf_X11_peek G l (sc (v4 + 1).toNatClampNeg) (sc (v4 + 2).toNatClampNeg) h b hb hl) me_X11_peek vi_RL_103 rfl rfl rfl rfl rfl dL_law_900 (fun r101 => ?_)
  refine s_pop rfl dL_law_903 ?_
  refine s_aload2 2 rfl dL_law_904 ?_
  refine s_aload0 4 rfl dL_law_905 ?_
  refine s_iload 0 rfl dL_law_906 ?_
  refine s_k1 dL_law_908 ?_
  refine s_iadd dL_law_909 ?_
  refine s_sld hX q99 dL_law_910 ?_
  refine s_aload0 4 rfl dL_law_911 ?_
  refine s_iload 0 rfl dL_law_912 ?_
  refine s_k2 dL_law_914 ?_
  refine s_iadd dL_law_915 ?_
  refine s_sld hX q100 dL_law_916 ?_
  refine s_viI [.inl (sc (v4 + 1).toNatClampNeg), .inl (sc (v4 + 2).toNatClampNeg)] (fun l b hb hl => cf_X12_peek G l (sc (v4 + 1).toNatClampNeg) (sc (v4 + 2).toNatClampNeg) r101.2 b hb hl) me_X12_peek vi_RL_106 rfl rfl rfl rfl rfl dL_law_917 (fun r102 => ?_)
  refine s_pop rfl dL_law_920 ?_
  refine s_goto (tgt := 1466) dL_law_921 (by decide) ?_
  refine s_iincw 6 (by decide) 0 [(4, .inl (v4 + 6)), (3, .inr (.inr (98, 0))), (2, .inr (.inr (12, 0))), (1, .inr (.inr (11, 0))), (0, .inr (.inr (99, 0)))] rfl rfl rfl dL_law_1466 ?_
  refine s_goto (tgt := 23) dL_law_1469 (by decide) ?_
  exact s_loc [0, 1, 2, 3, 4] rfl (hkb _ (Or.inl rfl) (v4 + 6) r102.2)
set_option maxRecDepth 20000 in
theorem sf_L_924 {G : mG} {X : mX} {b n k : Nat} {sc : Nat → Int32} {kb : Int32 → mH → Option mH} (hX : lwX G X b n sc (k + 1)) (hkb : lwK G X kb) (v4 : Int32) (h : mH) : lwS G X (f_L_924 sc n kb v4 h) 924 [(4, .inl v4), (3, .inr (.inr (98, 0))), (2, .inr (.inr (12, 0))), (1, .inr (.inr (11, 0))), (0, .inr (.inr (99, 0)))] h := by
  unfold f_L_924
  refine s_aload1 3 rfl dL_law_924 ?_
  refine s_aload0 4 rfl dL_law_925 ?_
  refine s_iload 0 rfl dL_law_926 ?_
  refine s_k1 dL_law_928 ?_
  refine s_iadd dL_law_929 ?_
  refine s_chk (fun q104 => ?_)
  refine s_sld hX q104 dL_law_930 ?_
  refine s_viI [.inl (sc (v4 + 1).toNatClampNeg)] (fun l b hb hl => cf_X11_shadow G l (sc (v4 + 1).toNatClampNeg) h b hb hl) me_X11_shadow vi_RL_107 rfl rfl rfl rfl rfl dL_law_931 (fun r105 => ?_)
  refine s_pop rfl dL_law_934 ?_
  refine s_aload2 2 rfl dL_law_935 ?_
  refine s_aload0 4 rfl dL_law_936 ?_
  refine s_iload 0 rfl dL_law_937 ?_
  refine s_k1 dL_law_939 ?_
  refine s_iadd dL_law_940 ?_
  refine s_sld hX q104 dL_law_941 ?_
  refine s_viI [.inl (sc (v4 + 1).toNatClampNeg)] (fun l b hb hl => cf_X12_shadow G l (sc (v4 + 1).toNatClampNeg) r105.2 b hb hl) me_X12_shadow vi_RL_110 rfl rfl rfl rfl rfl dL_law_942 (fun r106 => ?_)
  refine s_pop rfl dL_law_945 ?_
  refine s_goto (tgt := 1466) dL_law_946 (by decide) ?_
  refine s_iincw 6 (by decide) 0 [(4, .inl (v4 + 6)), (3, .inr (.inr (98, 0))), (2, .inr (.inr (12, 0))), (1, .inr (.inr (11, 0))), (0, .inr (.inr (99, 0)))] rfl rfl rfl dL_law_1466 ?_
  refine s_goto (tgt := 23) dL_law_1469 (by decide) ?_
  exact s_loc [0, 1, 2, 3, 4] rfl (hkb _ (Or.inl rfl) (v4 + 6) r106.2)
set_option maxRecDepth 20000 in
theorem sf_L_949 {G : mG} {X : mX} {b n k : Nat} {sc : Nat → Int32} {kb : Int32 → mH → Option mH} (hX : lwX G X b n sc (k + 1)) (hkb : lwK G X kb) (v4 : Int32) (h : mH) : lwS G X (f_L_949 sc n kb v4 h) 949 [(4, .inl v4), (3, .inr (.inr (98, 0))), (2, .inr (.inr (12, 0))), (1, .inr (.inr (11, 0))), (0, .inr (.inr (99, 0)))] h := by
  unfold f_L_949
  refine s_aload1 3 rfl dL_law_949 ?_
  refine s_viI [] (fun l b hb hl => cf_X11_result G l  h b hb hl) me_X11_result vi_RL_111 rfl rfl rfl rfl rfl dL_law_950 (fun r108 => ?_)
  refine s_pop rfl dL_law_953 ?_
  refine s_aload2 2 rfl dL_law_954 ?_
  refine s_viI [] (fun l b hb hl => cf_X12_result G l  r108.2 b hb hl) me_X12_result vi_RL_114 rfl rfl rfl rfl rfl dL_law_955 (fun r109 => ?_)
  refine s_pop rfl dL_law_958 ?_
  refine s_goto (tgt := 1466) dL_law_959 (by decide) ?_
  refine s_iincw 6 (by decide) 0 [(4, .inl (v4 + 6)), (3, .inr (.inr (98, 0))), (2, .inr (.inr (12, 0))), (1, .inr (.inr (11, 0))), (0, .inr (.inr (99, 0)))] rfl rfl rfl dL_law_1466 ?_
  refine s_goto (tgt := 23) dL_law_1469 (by decide) ?_
  exact s_loc [0, 1, 2, 3, 4] rfl (hkb _ (Or.inl rfl) (v4 + 6) r109.2)
set_option maxRecDepth 20000 in
theorem sf_L_962 {G : mG} {X : mX} {b n k : Nat} {sc : Nat → Int32} {kb : Int32 → mH → Option mH} (hX : lwX G X b n sc (k + 1)) (hkb : lwK G X kb) (v4 : Int32) (h : mH) : lwS G X (f_L_962 sc n kb v4 h) 962 [(4, .inl v4), (3, .inr (.inr (98, 0))), (2, .inr (.inr (12, 0))), (1, .inr (.inr (11, 0))), (0, .inr (.inr (99, 0)))] h := by
  unfold f_L_962
  refine s_aload1 3 rfl dL_law_962 ?_
  refine s_aload0 4 rfl dL_law_963 ?_
  refine s_iload 0 rfl dL_law_964 ?_
  refine s_k1 dL_law_966 ?_
  refine s_iadd dL_law_967 ?_
  refine s_chk (fun q111 => ?_)
  refine s_sld hX q111 dL_law_968 ?_
  refine s_viI [.inl (sc (v4 + 1).toNatClampNeg)] (fun l b hb hl => cf_X11_breaks G l (sc (v4 + 1).toNatClampNeg) h b hb hl) me_X11_breaks vi_RL_115 rfl rfl rfl rfl rfl dL_law_969 (fun r112 => ?_)
  refine s_pop rfl dL_law_972 ?_
  refine s_aload2 2 rfl dL_law_973 ?_
  refine s_aload0 4 rfl dL_law_974 ?_
  refine s_iload 0 rfl dL_law_975 ?_
  refine s_k1 dL_law_977 ?_
  refine s_iadd dL_law_978 ?_
  refine s_sld hX q111 dL_law_979 ?_
  refine s_viI [.inl (sc (v4 + 1).toNatClampNeg)] (fun l b hb hl => cf_X12_breaks G l (sc (v4 + 1).toNatClampNeg) r112.2 b hb hl) me_X12_breaks vi_RL_118 rfl rfl rfl rfl rfl dL_law_980 (fun r113 => ?_)
  refine s_pop rfl dL_law_983 ?_
  refine s_goto (tgt := 1466) dL_law_984 (by decide) ?_
  refine s_iincw 6 (by decide) 0 [(4, .inl (v4 + 6)), (3, .inr (.inr (98, 0))), (2, .inr (.inr (12, 0))), (1, .inr (.inr (11, 0))), (0, .inr (.inr (99, 0)))] rfl rfl rfl dL_law_1466 ?_
  refine s_goto (tgt := 23) dL_law_1469 (by decide) ?_
  exact s_loc [0, 1, 2, 3, 4] rfl (hkb _ (Or.inl rfl) (v4 + 6) r113.2)
set_option maxRecDepth 20000 in
theorem sf_L_987 {G : mG} {X : mX} {b n k : Nat} {sc : Nat → Int32} {kb : Int32 → mH → Option mH} (hX : lwX G X b n sc (k + 1)) (hkb : lwK G X kb) (v4 : Int32) (h : mH) : lwS G X (f_L_987 sc n kb v4 h) 987 [(4, .inl v4), (3, .inr (.inr (98, 0))), (2, .inr (.inr (12, 0))), (1, .inr (.inr (11, 0))), (0, .inr (.inr (99, 0)))] h := by
  unfold f_L_987
  refine s_aload1 3 rfl dL_law_987 ?_
  refine s_aload0 4 rfl dL_law_988 ?_
  refine s_iload 0 rfl dL_law_989 ?_
  refine s_k1 dL_law_991 ?_
  refine s_iadd dL_law_992 ?_
  refine s_chk (fun q115 => ?_)
  refine s_sld hX q115 dL_law_993 ?_
  refine s_aload0 4 rfl dL_law_994 ?_
  refine s_iload 0 rfl dL_law_995 ?_
  refine s_k2 dL_law_997 ?_
  refine s_iadd dL_law_998 ?_
  refine s_chk (fun q116 => ?_)
  refine s_sld hX q116 dL_law_999 ?_
  refine s_viI [.inl (sc (v4 + 1).toNatClampNeg), .inl (sc (v4 + 2).toNatClampNeg)] (fun l b hb hl => cf_X11_walk G l (sc (v4 + 1).toNatClampNeg) (sc (v4 + 2).toNatClampNeg) h b hb hl) me_X11_walk vi_RL_119 rfl rfl rfl rfl rfl dL_law_1000 (fun r117 => ?_)
  refine s_pop rfl dL_law_1003 ?_
  refine s_aload2 2 rfl dL_law_1004 ?_
  refine s_aload0 4 rfl dL_law_1005 ?_
  refine s_iload 0 rfl dL_law_1006 ?_
  refine s_k1 dL_law_1008 ?_
  refine s_iadd dL_law_1009 ?_
  refine s_sld hX q115 dL_law_1010 ?_
  refine s_aload0 4 rfl dL_law_1011 ?_
  refine s_iload 0 rfl dL_law_1012 ?_
  refine s_k2 dL_law_1014 ?_
  refine s_iadd dL_law_1015 ?_
  refine s_sld hX q116 dL_law_1016 ?_
  refine s_viI [.inl (sc (v4 + 1).toNatClampNeg), .inl (sc (v4 + 2).toNatClampNeg)] (fun l b hb hl => cf_X12_walk G l (sc (v4 + 1).toNatClampNeg) (sc (v4 + 2).toNatClampNeg) r117.2 b hb hl) me_X12_walk vi_RL_122 rfl rfl rfl rfl rfl dL_law_1017 (fun r118 => ?_)
  refine s_pop rfl dL_law_1020 ?_
  refine s_goto (tgt := 1466) dL_law_1021 (by decide) ?_
  refine s_iincw 6 (by decide) 0 [(4, .inl (v4 + 6)), (3, .inr (.inr (98, 0))), (2, .inr (.inr (12, 0))), (1, .inr (.inr (11, 0))), (0, .inr (.inr (99, 0)))] rfl rfl rfl dL_law_1466 ?_
  refine s_goto (tgt := 23) dL_law_1469 (by decide) ?_
  exact s_loc [0, 1, 2, 3, 4] rfl (hkb _ (Or.inl rfl) (v4 + 6) r118.2)
set_option maxRecDepth 20000 in
theorem sf_L_1024 {G : mG} {X : mX} {b n k : Nat} {sc : Nat → Int32} {kb : Int32 → mH → Option mH} (hX : lwX G X b n sc (k + 1)) (hkb : lwK G X kb) (v4 : Int32) (h : mH) : lwS G X (f_L_1024 sc n kb v4 h) 1024 [(4, .inl v4), (3, .inr (.inr (98, 0))), (2, .inr (.inr (12, 0))), (1, .inr (.inr (11, 0))), (0, .inr (.inr (99, 0)))] h := by
  unfold f_L_1024
  refine s_aload1 3 rfl dL_law_1024 ?_
  refine s_aload0 4 rfl dL_law_1025 ?_
  refine s_iload 0 rfl dL_law_1026 ?_
  refine s_k1 dL_law_1028 ?_
  refine s_iadd dL_law_1029 ?_
  refine s_chk (fun q120 => ?_)
  refine s_sld hX q120 dL_law_1030 ?_
  refine s_viI [.inl (sc (v4 + 1).toNatClampNeg)] (fun l b hb hl => cf_X11_why G l (sc (v4 + 1).toNatClampNeg) h b hb hl) me_X11_why vi_RL_123 rfl rfl rfl rfl rfl dL_law_1031 (fun r121 => ?_)
  refine s_pop rfl dL_law_1034 ?_
  refine s_aload2 2 rfl dL_law_1035 ?_
  refine s_aload0 4 rfl dL_law_1036 ?_
  refine s_iload 0 rfl dL_law_1037 ?_
  refine s_k1 dL_law_1039 ?_
  refine s_iadd dL_law_1040 ?_
  refine s_sld hX q120 dL_law_1041 ?_
  refine s_viI [.inl (sc (v4 + 1).toNatClampNeg)] (fun l b hb hl => cf_X12_why G l (sc (v4 + 1).toNatClampNeg) r121.2 b hb hl) me_X12_why vi_RL_126 rfl rfl rfl rfl rfl dL_law_1042 (fun r122 => ?_)
  refine s_pop rfl dL_law_1045 ?_
  refine s_goto (tgt := 1466) dL_law_1046 (by decide) ?_
  refine s_iincw 6 (by decide) 0 [(4, .inl (v4 + 6)), (3, .inr (.inr (98, 0))), (2, .inr (.inr (12, 0))), (1, .inr (.inr (11, 0))), (0, .inr (.inr (99, 0)))] rfl rfl rfl dL_law_1466 ?_
  refine s_goto (tgt := 23) dL_law_1469 (by decide) ?_
  exact s_loc [0, 1, 2, 3, 4] rfl (hkb _ (Or.inl rfl) (v4 + 6) r122.2)
set_option maxRecDepth 20000 in
theorem sf_L_1049 {G : mG} {X : mX} {b n k : Nat} {sc : Nat → Int32} {kb : Int32 → mH → Option mH} (hX : lwX G X b n sc (k + 1)) (hkb : lwK G X kb) (v4 : Int32) (h : mH) : lwS G X (f_L_1049 sc n kb v4 h) 1049 [(4, .inl v4), (3, .inr (.inr (98, 0))), (2, .inr (.inr (12, 0))), (1, .inr (.inr (11, 0))), (0, .inr (.inr (99, 0)))] h := by
  unfold f_L_1049
  refine s_aload1 3 rfl dL_law_1049 ?_
  refine s_aload0 4 rfl dL_law_1050 ?_
  refine s_iload 0 rfl dL_law_1051 ?_
  refine s_k1 dL_law_1053 ?_
  refine s_iadd dL_law_1054 ?_
  refine s_chk (fun q124 => ?_)
  refine s_sld hX q124 dL_law_1055 ?_
  refine s_aload0 4 rfl dL_law_1056 ?_
  refine s_iload 0 rfl dL_law_1057 ?_
  refine s_k2 dL_law_1059 ?_
  refine s_iadd dL_law_1060 ?_
  refine s_chk (fun q125 => ?_)
  refine s_sld hX q125 dL_law_1061 ?_
  refine s_aload0 4 rfl dL_law_1062 ?_
  refine s_iload 0 rfl dL_law_1063 ?_
  refine s_k3 dL_law_1065 ?_
  refine s_iadd dL_law_1066 ?_
  refine s_chk (fun q126 => ?_)
  refine s_sld hX q126 dL_law_1067 ?_
  refine s_viI [.inl (sc (v4 + 1).toNatClampNeg), .inl (sc (v4 + 2).toNatClampNeg), .inl (sc (v4 + 3).toNatClampNeg)] (fun l b hb hl => cf_X11_tape G l (sc (v4 + 1).toNatClampNeg) (sc (v4 + 2).toNatClampNeg) (sc (v4 + 3).toNatClampNeg) h b hb hl) me_X11_tape vi_RL_127 rfl rfl rfl rfl rfl dL_law_1068 (fun r127 => ?_)
  refine s_pop rfl dL_law_1071 ?_
  refine s_aload2 2 rfl dL_law_1072 ?_
  refine s_aload0 4 rfl dL_law_1073 ?_
  refine s_iload 0 rfl dL_law_1074 ?_
  refine s_k1 dL_law_1076 ?_
  refine s_iadd dL_law_1077 ?_
  refine s_sld hX q124 dL_law_1078 ?_
  refine s_aload0 4 rfl dL_law_1079 ?_
  refine s_iload 0 rfl dL_law_1080 ?_
  refine s_k2 dL_law_1082 ?_
  refine s_iadd dL_law_1083 ?_
  refine s_sld hX q125 dL_law_1084 ?_
  refine s_aload0 4 rfl dL_law_1085 ?_
  refine s_iload 0 rfl dL_law_1086 ?_
  refine s_k3 dL_law_1088 ?_
  refine s_iadd dL_law_1089 ?_
  refine s_sld hX q126 dL_law_1090 ?_
  refine s_viI [.inl (sc (v4 + 1).toNatClampNeg), .inl (sc (v4 + 2).toNatClampNeg), .inl (sc (v4 + 3).toNatClampNeg)] (fun l b hb hl => cf_X12_tape G l (sc (v4 + 1).toNatClampNeg) (sc (v4 + 2).toNatClampNeg) (sc (v4 + 3).toNatClampNeg) r127.2 b hb hl) me_X12_tape vi_RL_130 rfl rfl rfl rfl rfl dL_law_1091 (fun r128 => ?_)
  refine s_pop rfl dL_law_1094 ?_
  refine s_goto (tgt := 1466) dL_law_1095 (by decide) ?_
  refine s_iincw 6 (by decide) 0 [(4, .inl (v4 + 6)), (3, .inr (.inr (98, 0))), (2, .inr (.inr (12, 0))), (1, .inr (.inr (11, 0))), (0, .inr (.inr (99, 0)))] rfl rfl rfl dL_law_1466 ?_
  refine s_goto (tgt := 23) dL_law_1469 (by decide) ?_
  exact s_loc [0, 1, 2, 3, 4] rfl (hkb _ (Or.inl rfl) (v4 + 6) r128.2)
set_option maxRecDepth 20000 in
theorem sf_L_1098 {G : mG} {X : mX} {b n k : Nat} {sc : Nat → Int32} {kb : Int32 → mH → Option mH} (hX : lwX G X b n sc (k + 1)) (hkb : lwK G X kb) (v4 : Int32) (h : mH) : lwS G X (f_L_1098 sc n kb v4 h) 1098 [(4, .inl v4), (3, .inr (.inr (98, 0))), (2, .inr (.inr (12, 0))), (1, .inr (.inr (11, 0))), (0, .inr (.inr (99, 0)))] h := by
  unfold f_L_1098
  refine s_aload1 3 rfl dL_law_1098 ?_
  refine s_aload0 4 rfl dL_law_1099 ?_
  refine s_iload 0 rfl dL_law_1100 ?_
  refine s_k1 dL_law_1102 ?_
  refine s_iadd dL_law_1103 ?_
  refine s_chk (fun q130 => ?_)
  refine s_sld hX q130 dL_law_1104 ?_
  refine s_viI [.inl (sc (v4 + 1).toNatClampNeg)] (fun l b hb hl => cf_X11_image G l (sc (v4 + 1).toNatClampNeg) h b hb hl) me_X11_image vi_RL_131 rfl rfl rfl rfl rfl dL_law_1105 (fun r131 => ?_)
  refine s_pop rfl dL_law_1108 ?_
  refine s_aload2 2 rfl dL_law_1109 ?_
  refine s_aload0 4 rfl dL_law_1110 ?_
  refine s_iload 0 rfl dL_law_1111 ?_
  refine s_k1 dL_law_1113 ?_
  refine s_iadd dL_law_1114 ?_
  refine s_sld hX q130 dL_law_1115 ?_
  refine s_viI [.inl (sc (v4 + 1).toNatClampNeg)] (fun l b hb hl => cf_X12_image G l (sc (v4 + 1).toNatClampNeg) r131.2 b hb hl) me_X12_image vi_RL_134 rfl rfl rfl rfl rfl dL_law_1116 (fun r132 => ?_)
  refine s_pop rfl dL_law_1119 ?_
  refine s_goto (tgt := 1466) dL_law_1120 (by decide) ?_
  refine s_iincw 6 (by decide) 0 [(4, .inl (v4 + 6)), (3, .inr (.inr (98, 0))), (2, .inr (.inr (12, 0))), (1, .inr (.inr (11, 0))), (0, .inr (.inr (99, 0)))] rfl rfl rfl dL_law_1466 ?_
  refine s_goto (tgt := 23) dL_law_1469 (by decide) ?_
  exact s_loc [0, 1, 2, 3, 4] rfl (hkb _ (Or.inl rfl) (v4 + 6) r132.2)
set_option maxRecDepth 20000 in
theorem sf_L_1123 {G : mG} {X : mX} {b n k : Nat} {sc : Nat → Int32} {kb : Int32 → mH → Option mH} (hX : lwX G X b n sc (k + 1)) (hkb : lwK G X kb) (v4 : Int32) (h : mH) : lwS G X (f_L_1123 sc n kb v4 h) 1123 [(4, .inl v4), (3, .inr (.inr (98, 0))), (2, .inr (.inr (12, 0))), (1, .inr (.inr (11, 0))), (0, .inr (.inr (99, 0)))] h := by
  unfold f_L_1123
  refine s_aload1 3 rfl dL_law_1123 ?_
  refine s_aload0 4 rfl dL_law_1124 ?_
  refine s_iload 0 rfl dL_law_1125 ?_
  refine s_k1 dL_law_1127 ?_
  refine s_iadd dL_law_1128 ?_
  refine s_chk (fun q134 => ?_)
  refine s_sld hX q134 dL_law_1129 ?_
  refine s_viI [.inl (sc (v4 + 1).toNatClampNeg)] (fun l b hb hl => cf_X11_back G l (sc (v4 + 1).toNatClampNeg) h b hb hl) me_X11_back vi_RL_135 rfl rfl rfl rfl rfl dL_law_1130 (fun r135 => ?_)
  refine s_pop rfl dL_law_1133 ?_
  refine s_aload2 2 rfl dL_law_1134 ?_
  refine s_aload0 4 rfl dL_law_1135 ?_
  refine s_iload 0 rfl dL_law_1136 ?_
  refine s_k1 dL_law_1138 ?_
  refine s_iadd dL_law_1139 ?_
  refine s_sld hX q134 dL_law_1140 ?_
  refine s_viI [.inl (sc (v4 + 1).toNatClampNeg)] (fun l b hb hl => cf_X12_back G l (sc (v4 + 1).toNatClampNeg) r135.2 b hb hl) me_X12_back vi_RL_138 rfl rfl rfl rfl rfl dL_law_1141 (fun r136 => ?_)
  refine s_pop rfl dL_law_1144 ?_
  refine s_goto (tgt := 1466) dL_law_1145 (by decide) ?_
  refine s_iincw 6 (by decide) 0 [(4, .inl (v4 + 6)), (3, .inr (.inr (98, 0))), (2, .inr (.inr (12, 0))), (1, .inr (.inr (11, 0))), (0, .inr (.inr (99, 0)))] rfl rfl rfl dL_law_1466 ?_
  refine s_goto (tgt := 23) dL_law_1469 (by decide) ?_
  exact s_loc [0, 1, 2, 3, 4] rfl (hkb _ (Or.inl rfl) (v4 + 6) r136.2)
set_option maxRecDepth 20000 in
theorem sf_L_1148 {G : mG} {X : mX} {b n k : Nat} {sc : Nat → Int32} {kb : Int32 → mH → Option mH} (hX : lwX G X b n sc (k + 1)) (hkb : lwK G X kb) (v4 : Int32) (h : mH) : lwS G X (f_L_1148 sc n kb v4 h) 1148 [(4, .inl v4), (3, .inr (.inr (98, 0))), (2, .inr (.inr (12, 0))), (1, .inr (.inr (11, 0))), (0, .inr (.inr (99, 0)))] h := by
  unfold f_L_1148
  refine s_aload1 3 rfl dL_law_1148 ?_
  refine s_aload0 4 rfl dL_law_1149 ?_
  refine s_iload 0 rfl dL_law_1150 ?_
  refine s_k1 dL_law_1152 ?_
  refine s_iadd dL_law_1153 ?_
  refine s_chk (fun q138 => ?_)
  refine s_sld hX q138 dL_law_1154 ?_
  refine s_toss (sc (v4 + 1).toNatClampNeg) hX nk_RL_139 rfl rfl dL_law_1155 (fun r139 => ?_)
  refine s_pop rfl dL_law_1158 ?_
  refine s_aload2 2 rfl dL_law_1159 ?_
  refine s_aload0 4 rfl dL_law_1160 ?_
  refine s_iload 0 rfl dL_law_1161 ?_
  refine s_k1 dL_law_1163 ?_
  refine s_iadd dL_law_1164 ?_
  refine s_sld (lwX_up hX) q138 dL_law_1165 ?_
  refine s_viI [.inl (sc (v4 + 1).toNatClampNeg)] (fun l b hb hl => cf_X12_toss G l (sc (v4 + 1).toNatClampNeg) r139.2 b hb hl) me_X12_toss vi_RL_142 rfl rfl rfl rfl rfl dL_law_1166 (fun r140 => ?_)
  refine s_pop rfl dL_law_1169 ?_
  refine s_goto (tgt := 1466) dL_law_1170 (by decide) ?_
  refine s_iincw 6 (by decide) 0 [(4, .inl (v4 + 6)), (3, .inr (.inr (98, 0))), (2, .inr (.inr (12, 0))), (1, .inr (.inr (11, 0))), (0, .inr (.inr (99, 0)))] rfl rfl rfl dL_law_1466 ?_
  refine s_goto (tgt := 23) dL_law_1469 (by decide) ?_
  exact s_loc [0, 1, 2, 3, 4] rfl (hkb _ (Or.inr rfl) (v4 + 6) r140.2)
set_option maxRecDepth 20000 in
theorem sf_L_1173 {G : mG} {X : mX} {b n k : Nat} {sc : Nat → Int32} {kb : Int32 → mH → Option mH} (hX : lwX G X b n sc (k + 1)) (hkb : lwK G X kb) (v4 : Int32) (h : mH) : lwS G X (f_L_1173 sc n kb v4 h) 1173 [(4, .inl v4), (3, .inr (.inr (98, 0))), (2, .inr (.inr (12, 0))), (1, .inr (.inr (11, 0))), (0, .inr (.inr (99, 0)))] h := by
  unfold f_L_1173
  refine s_aload1 3 rfl dL_law_1173 ?_
  refine s_aload0 4 rfl dL_law_1174 ?_
  refine s_iload 0 rfl dL_law_1175 ?_
  refine s_k1 dL_law_1177 ?_
  refine s_iadd dL_law_1178 ?_
  refine s_chk (fun q142 => ?_)
  refine s_sld hX q142 dL_law_1179 ?_
  refine s_aload0 4 rfl dL_law_1180 ?_
  refine s_iload 0 rfl dL_law_1181 ?_
  refine s_k2 dL_law_1183 ?_
  refine s_iadd dL_law_1184 ?_
  refine s_chk (fun q143 => ?_)
  refine s_sld hX q143 dL_law_1185 ?_
  refine s_aload0 4 rfl dL_law_1186 ?_
  refine s_iload 0 rfl dL_law_1187 ?_
  refine s_k3 dL_law_1189 ?_
  refine s_iadd dL_law_1190 ?_
  refine s_chk (fun q144 => ?_)
  refine s_sld hX q144 dL_law_1191 ?_
  refine s_viI [.inl (sc (v4 + 1).toNatClampNeg), .inl (sc (v4 + 2).toNatClampNeg), .inl (sc (v4 + 3).toNatClampNeg)] (fun l b hb hl => cf_X11_play G l (sc (v4 + 1).toNatClampNeg) (sc (v4 + 2).toNatClampNeg) (sc (v4 + 3).toNatClampNeg) h b hb hl) me_X11_play vi_RL_143 rfl rfl rfl rfl rfl dL_law_1192 (fun r145 => ?_)
  refine s_pop rfl dL_law_1195 ?_
  refine s_aload2 2 rfl dL_law_1196 ?_
  refine s_aload0 4 rfl dL_law_1197 ?_
  refine s_iload 0 rfl dL_law_1198 ?_
  refine s_k1 dL_law_1200 ?_
  refine s_iadd dL_law_1201 ?_
  refine s_sld hX q142 dL_law_1202 ?_
  refine s_aload0 4 rfl dL_law_1203 ?_
  refine s_iload 0 rfl dL_law_1204 ?_
  refine s_k2 dL_law_1206 ?_
  refine s_iadd dL_law_1207 ?_
  refine s_sld hX q143 dL_law_1208 ?_
  refine s_aload0 4 rfl dL_law_1209 ?_
  refine s_iload 0 rfl dL_law_1210 ?_
  refine s_k3 dL_law_1212 ?_
  refine s_iadd dL_law_1213 ?_
  refine s_sld hX q144 dL_law_1214 ?_
  refine s_viI [.inl (sc (v4 + 1).toNatClampNeg), .inl (sc (v4 + 2).toNatClampNeg), .inl (sc (v4 + 3).toNatClampNeg)] (fun l b hb hl => cf_X12_play G l (sc (v4 + 1).toNatClampNeg) (sc (v4 + 2).toNatClampNeg) (sc (v4 + 3).toNatClampNeg) r145.2 b hb hl) me_X12_play vi_RL_146 rfl rfl rfl rfl rfl dL_law_1215 (fun r146 => ?_)
  refine s_pop rfl dL_law_1218 ?_
  refine s_goto (tgt := 1466) dL_law_1219 (by decide) ?_
  refine s_iincw 6 (by decide) 0 [(4, .inl (v4 + 6)), (3, .inr (.inr (98, 0))), (2, .inr (.inr (12, 0))), (1, .inr (.inr (11, 0))), (0, .inr (.inr (99, 0)))] rfl rfl rfl dL_law_1466 ?_
  refine s_goto (tgt := 23) dL_law_1469 (by decide) ?_
  exact s_loc [0, 1, 2, 3, 4] rfl (hkb _ (Or.inl rfl) (v4 + 6) r146.2)
set_option maxRecDepth 20000 in
theorem sf_L_1222 {G : mG} {X : mX} {b n k : Nat} {sc : Nat → Int32} {kb : Int32 → mH → Option mH} (hX : lwX G X b n sc (k + 1)) (hkb : lwK G X kb) (v4 : Int32) (h : mH) : lwS G X (f_L_1222 sc n kb v4 h) 1222 [(4, .inl v4), (3, .inr (.inr (98, 0))), (2, .inr (.inr (12, 0))), (1, .inr (.inr (11, 0))), (0, .inr (.inr (99, 0)))] h := by
  unfold f_L_1222
  refine s_aload1 3 rfl dL_law_1222 ?_
  refine s_aload0 4 rfl dL_law_1223 ?_
  refine s_iload 0 rfl dL_law_1224 ?_
  refine s_k1 dL_law_1226 ?_
  refine s_iadd dL_law_1227 ?_
  refine s_chk (fun q148 => ?_)
  refine s_sld hX q148 dL_law_1228 ?_
  refine s_viI [.inl (sc (v4 + 1).toNatClampNeg)] (fun l b hb hl => cf_X11_clear G l (sc (v4 + 1).toNatClampNeg) h b hb hl) me_X11_clear vi_RL_147 rfl rfl rfl rfl rfl dL_law_1229 (fun r149 => ?_)
  refine s_pop rfl dL_law_1232 ?_
  refine s_aload2 2 rfl dL_law_1233 ?_
  refine s_aload0 4 rfl dL_law_1234 ?_
  refine s_iload 0 rfl dL_law_1235 ?_
  refine s_k1 dL_law_1237 ?_
  refine s_iadd dL_law_1238 ?_
  refine s_sld hX q148 dL_law_1239 ?_
  refine s_viI [.inl (sc (v4 + 1).toNatClampNeg)] (fun l b hb hl => cf_X12_clear G l (sc (v4 + 1).toNatClampNeg) r149.2 b hb hl) me_X12_clear vi_RL_150 rfl rfl rfl rfl rfl dL_law_1240 (fun r150 => ?_)
  refine s_pop rfl dL_law_1243 ?_
  refine s_goto (tgt := 1466) dL_law_1244 (by decide) ?_
  refine s_iincw 6 (by decide) 0 [(4, .inl (v4 + 6)), (3, .inr (.inr (98, 0))), (2, .inr (.inr (12, 0))), (1, .inr (.inr (11, 0))), (0, .inr (.inr (99, 0)))] rfl rfl rfl dL_law_1466 ?_
  refine s_goto (tgt := 23) dL_law_1469 (by decide) ?_
  exact s_loc [0, 1, 2, 3, 4] rfl (hkb _ (Or.inl rfl) (v4 + 6) r150.2)
set_option maxRecDepth 20000 in
theorem sf_L_1247 {G : mG} {X : mX} {b n k : Nat} {sc : Nat → Int32} {kb : Int32 → mH → Option mH} (hX : lwX G X b n sc (k + 1)) (hkb : lwK G X kb) (v4 : Int32) (h : mH) : lwS G X (f_L_1247 sc n kb v4 h) 1247 [(4, .inl v4), (3, .inr (.inr (98, 0))), (2, .inr (.inr (12, 0))), (1, .inr (.inr (11, 0))), (0, .inr (.inr (99, 0)))] h := by
  unfold f_L_1247
  refine s_aload1 3 rfl dL_law_1247 ?_
  refine s_aload0 4 rfl dL_law_1248 ?_
  refine s_iload 0 rfl dL_law_1249 ?_
  refine s_k1 dL_law_1251 ?_
  refine s_iadd dL_law_1252 ?_
  refine s_chk (fun q152 => ?_)
  refine s_sld hX q152 dL_law_1253 ?_
  refine s_aload0 4 rfl dL_law_1254 ?_
  refine s_iload 0 rfl dL_law_1255 ?_
  refine s_k2 dL_law_1257 ?_
  refine s_iadd dL_law_1258 ?_
  refine s_chk (fun q153 => ?_)
  refine s_sld hX q153 dL_law_1259 ?_
  refine s_aload0 4 rfl dL_law_1260 ?_
  refine s_iload 0 rfl dL_law_1261 ?_
  refine s_k3 dL_law_1263 ?_
  refine s_iadd dL_law_1264 ?_
  refine s_chk (fun q154 => ?_)
  refine s_sld hX q154 dL_law_1265 ?_
  refine s_i2l dL_law_1266 ?_
  refine s_bip 32 kb_32 dL_law_1267 ?_
  refine s_lshl dL_law_1269 ?_
  refine s_aload0 4 rfl dL_law_1270 ?_
  refine s_iload 0 rfl dL_law_1271 ?_
  refine s_k4 dL_law_1273 ?_
  refine s_iadd dL_law_1274 ?_
  refine s_chk (fun q155 => ?_)
  refine s_sld hX q155 dL_law_1275 ?_
  refine s_i2l dL_law_1276 ?_
  refine s_ldc2 (v := 4294967295) kc_RL_151 dL_law_1277 ?_
  refine s_land dL_law_1280 ?_
  refine s_lor dL_law_1281 ?_
  refine s_viI [.inl (sc (v4 + 1).toNatClampNeg), .inl (sc (v4 + 2).toNatClampNeg), .inr (.inl ((((sc (v4 + 3).toNatClampNeg).toInt64) <<< ((32 : Int32).toInt64 &&& 63)) ||| (((sc (v4 + 4).toNatClampNeg).toInt64) &&& 4294967295)))] (fun l b hb hl => cf_X11_put G l (sc (v4 + 1).toNatClampNeg) (sc (v4 + 2).toNatClampNeg) ((((sc (v4 + 3).toNatClampNeg).toInt64) <<< ((32 : Int32).toInt64 &&& 63)) ||| (((sc (v4 + 4).toNatClampNeg).toInt64) &&& 4294967295)) h b hb hl) me_X11_put vi_RL_153 rfl rfl rfl rfl rfl dL_law_1282 (fun r156 => ?_)
  refine s_pop rfl dL_law_1285 ?_
  refine s_aload2 2 rfl dL_law_1286 ?_
  refine s_aload0 4 rfl dL_law_1287 ?_
  refine s_iload 0 rfl dL_law_1288 ?_
  refine s_k1 dL_law_1290 ?_
  refine s_iadd dL_law_1291 ?_
  refine s_sld hX q152 dL_law_1292 ?_
  refine s_aload0 4 rfl dL_law_1293 ?_
  refine s_iload 0 rfl dL_law_1294 ?_
  refine s_k2 dL_law_1296 ?_
  refine s_iadd dL_law_1297 ?_
  refine s_sld hX q153 dL_law_1298 ?_
  refine s_aload0 4 rfl dL_law_1299 ?_
  refine s_iload 0 rfl dL_law_1300 ?_
  refine s_k3 dL_law_1302 ?_
  refine s_iadd dL_law_1303 ?_
  refine s_sld hX q154 dL_law_1304 ?_
  refine s_i2l dL_law_1305 ?_
  refine s_bip 32 kb_32 dL_law_1306 ?_
  refine s_lshl dL_law_1308 ?_
  refine s_aload0 4 rfl dL_law_1309 ?_
  refine s_iload 0 rfl dL_law_1310 ?_
  refine s_k4 dL_law_1312 ?_
  refine s_iadd dL_law_1313 ?_
  refine s_sld hX q155 dL_law_1314 ?_
  refine s_i2l dL_law_1315 ?_
  refine s_ldc2 (v := 4294967295) kc_RL_151 dL_law_1316 ?_
  refine s_land dL_law_1319 ?_
  refine s_lor dL_law_1320 ?_
  refine s_viI [.inl (sc (v4 + 1).toNatClampNeg), .inl (sc (v4 + 2).toNatClampNeg), .inr (.inl ((((sc (v4 + 3).toNatClampNeg).toInt64) <<< ((32 : Int32).toInt64 &&& 63)) ||| (((sc (v4 + 4).toNatClampNeg).toInt64) &&& 4294967295)))] (fun l b hb hl => cf_X12_put G l (sc (v4 + 1).toNatClampNeg) (sc (v4 + 2).toNatClampNeg) ((((sc (v4 + 3).toNatClampNeg).toInt64) <<< ((32 : Int32).toInt64 &&& 63)) ||| (((sc (v4 + 4).toNatClampNeg).toInt64) &&& 4294967295)) r156.2 b hb hl) me_X12_put vi_RL_157 rfl rfl rfl rfl rfl dL_law_1321 (fun r157 => ?_)
  refine s_pop rfl dL_law_1324 ?_
  refine s_goto (tgt := 1466) dL_law_1325 (by decide) ?_
  refine s_iincw 6 (by decide) 0 [(4, .inl (v4 + 6)), (3, .inr (.inr (98, 0))), (2, .inr (.inr (12, 0))), (1, .inr (.inr (11, 0))), (0, .inr (.inr (99, 0)))] rfl rfl rfl dL_law_1466 ?_
  refine s_goto (tgt := 23) dL_law_1469 (by decide) ?_
  exact s_loc [0, 1, 2, 3, 4] rfl (hkb _ (Or.inl rfl) (v4 + 6) r157.2)
set_option maxRecDepth 20000 in
theorem sf_L_1328 {G : mG} {X : mX} {b n k : Nat} {sc : Nat → Int32} {kb : Int32 → mH → Option mH} (hX : lwX G X b n sc (k + 1)) (hkb : lwK G X kb) (v4 : Int32) (h : mH) : lwS G X (f_L_1328 sc n kb v4 h) 1328 [(4, .inl v4), (3, .inr (.inr (98, 0))), (2, .inr (.inr (12, 0))), (1, .inr (.inr (11, 0))), (0, .inr (.inr (99, 0)))] h := by
  unfold f_L_1328
  refine s_aload1 3 rfl dL_law_1328 ?_
  refine s_aload0 4 rfl dL_law_1329 ?_
  refine s_iload 0 rfl dL_law_1330 ?_
  refine s_k1 dL_law_1332 ?_
  refine s_iadd dL_law_1333 ?_
  refine s_chk (fun q159 => ?_)
  refine s_sld hX q159 dL_law_1334 ?_
  refine s_aload0 4 rfl dL_law_1335 ?_
  refine s_iload 0 rfl dL_law_1336 ?_
  refine s_k2 dL_law_1338 ?_
  refine s_iadd dL_law_1339 ?_
  refine s_chk (fun q160 => ?_)
  refine s_sld hX q160 dL_law_1340 ?_
  refine s_aload3 1 rfl dL_law_1341 ?_
  refine s_lat (sc (v4 + 1).toNatClampNeg) (sc (v4 + 2).toNatClampNeg) hX nk_RL_158 rfl rfl dL_law_1342 (fun r161 => ?_)
  refine s_istorew [(5, .inl r161.1), (4, .inl v4), (3, .inr (.inr (98, 0))), (2, .inr (.inr (12, 0))), (1, .inr (.inr (11, 0))), (0, .inr (.inr (99, 0)))] rfl rfl dL_law_1345 ?_
  refine s_aload2 3 rfl dL_law_1347 ?_
  refine s_aload0 5 rfl dL_law_1348 ?_
  refine s_iload 1 rfl dL_law_1349 ?_
  refine s_k1 dL_law_1351 ?_
  refine s_iadd dL_law_1352 ?_
  refine s_sld (lwX_up hX) q159 dL_law_1353 ?_
  refine s_aload0 5 rfl dL_law_1354 ?_
  refine s_iload 1 rfl dL_law_1355 ?_
  refine s_k2 dL_law_1357 ?_
  refine s_iadd dL_law_1358 ?_
  refine s_sld (lwX_up hX) q160 dL_law_1359 ?_
  refine s_viJ [.inl (sc (v4 + 1).toNatClampNeg), .inl (sc (v4 + 2).toNatClampNeg)] (fun l b hb hl => cf_X12_at G l (sc (v4 + 1).toNatClampNeg) (sc (v4 + 2).toNatClampNeg) r161.2 b hb hl) me_X12_at vi_RL_163 rfl rfl rfl rfl rfl dL_law_1360 (fun r162 => ?_)
  refine s_lstorew [(6, .inr (.inl r162.1)), (5, .inl r161.1), (4, .inl v4), (3, .inr (.inr (98, 0))), (2, .inr (.inr (12, 0))), (1, .inr (.inr (11, 0))), (0, .inr (.inr (99, 0)))] rfl rfl dL_law_1363 ?_
  refine s_goto (tgt := 1466) dL_law_1365 (by decide) ?_
  refine s_iincw 6 (by decide) 2 [(4, .inl (v4 + 6)), (6, .inr (.inl r162.1)), (5, .inl r161.1), (3, .inr (.inr (98, 0))), (2, .inr (.inr (12, 0))), (1, .inr (.inr (11, 0))), (0, .inr (.inr (99, 0)))] rfl rfl rfl dL_law_1466 ?_
  refine s_goto (tgt := 23) dL_law_1469 (by decide) ?_
  exact s_loc [0, 3, 4, 5, 6] rfl (hkb _ (Or.inr rfl) (v4 + 6) r162.2)
set_option maxRecDepth 20000 in
theorem sf_L_1368 {G : mG} {X : mX} {b n k : Nat} {sc : Nat → Int32} {kb : Int32 → mH → Option mH} (hX : lwX G X b n sc (k + 1)) (hkb : lwK G X kb) (v4 : Int32) (h : mH) : lwS G X (f_L_1368 sc n kb v4 h) 1368 [(4, .inl v4), (3, .inr (.inr (98, 0))), (2, .inr (.inr (12, 0))), (1, .inr (.inr (11, 0))), (0, .inr (.inr (99, 0)))] h := by
  unfold f_L_1368
  refine s_aload1 3 rfl dL_law_1368 ?_
  refine s_aload0 4 rfl dL_law_1369 ?_
  refine s_iload 0 rfl dL_law_1370 ?_
  refine s_k1 dL_law_1372 ?_
  refine s_iadd dL_law_1373 ?_
  refine s_chk (fun q164 => ?_)
  refine s_sld hX q164 dL_law_1374 ?_
  refine s_aload0 4 rfl dL_law_1375 ?_
  refine s_iload 0 rfl dL_law_1376 ?_
  refine s_k2 dL_law_1378 ?_
  refine s_iadd dL_law_1379 ?_
  refine s_chk (fun q165 => ?_)
  refine s_sld hX q165 dL_law_1380 ?_
  refine s_aload0 4 rfl dL_law_1381 ?_
  refine s_iload 0 rfl dL_law_1382 ?_
  refine s_k3 dL_law_1384 ?_
  refine s_iadd dL_law_1385 ?_
  refine s_chk (fun q166 => ?_)
  refine s_sld hX q166 dL_law_1386 ?_
  refine s_aload0 4 rfl dL_law_1387 ?_
  refine s_iload 0 rfl dL_law_1388 ?_
  refine s_k4 dL_law_1390 ?_
  refine s_iadd dL_law_1391 ?_
  refine s_chk (fun q167 => ?_)
  refine s_sld hX q167 dL_law_1392 ?_
  refine s_aload0 4 rfl dL_law_1393 ?_
  refine s_iload 0 rfl dL_law_1394 ?_
  refine s_k5 dL_law_1396 ?_
  refine s_iadd dL_law_1397 ?_
  refine s_chk (fun q168 => ?_)
  refine s_sld hX q168 dL_law_1398 ?_
  refine s_viI [.inl (sc (v4 + 1).toNatClampNeg), .inl (sc (v4 + 2).toNatClampNeg), .inl (sc (v4 + 3).toNatClampNeg), .inl (sc (v4 + 4).toNatClampNeg), .inl (sc (v4 + 5).toNatClampNeg)] (fun l b hb hl => cf_X11_copy G l (sc (v4 + 1).toNatClampNeg) (sc (v4 + 2).toNatClampNeg) (sc (v4 + 3).toNatClampNeg) (sc (v4 + 4).toNatClampNeg) (sc (v4 + 5).toNatClampNeg) h b hb hl) me_X11_copy vi_RL_164 rfl rfl rfl rfl rfl dL_law_1399 (fun r169 => ?_)
  refine s_pop rfl dL_law_1402 ?_
  refine s_aload2 2 rfl dL_law_1403 ?_
  refine s_aload0 4 rfl dL_law_1404 ?_
  refine s_iload 0 rfl dL_law_1405 ?_
  refine s_k1 dL_law_1407 ?_
  refine s_iadd dL_law_1408 ?_
  refine s_sld hX q164 dL_law_1409 ?_
  refine s_aload0 4 rfl dL_law_1410 ?_
  refine s_iload 0 rfl dL_law_1411 ?_
  refine s_k2 dL_law_1413 ?_
  refine s_iadd dL_law_1414 ?_
  refine s_sld hX q165 dL_law_1415 ?_
  refine s_aload0 4 rfl dL_law_1416 ?_
  refine s_iload 0 rfl dL_law_1417 ?_
  refine s_k3 dL_law_1419 ?_
  refine s_iadd dL_law_1420 ?_
  refine s_sld hX q166 dL_law_1421 ?_
  refine s_aload0 4 rfl dL_law_1422 ?_
  refine s_iload 0 rfl dL_law_1423 ?_
  refine s_k4 dL_law_1425 ?_
  refine s_iadd dL_law_1426 ?_
  refine s_sld hX q167 dL_law_1427 ?_
  refine s_aload0 4 rfl dL_law_1428 ?_
  refine s_iload 0 rfl dL_law_1429 ?_
  refine s_k5 dL_law_1431 ?_
  refine s_iadd dL_law_1432 ?_
  refine s_sld hX q168 dL_law_1433 ?_
  refine s_viI [.inl (sc (v4 + 1).toNatClampNeg), .inl (sc (v4 + 2).toNatClampNeg), .inl (sc (v4 + 3).toNatClampNeg), .inl (sc (v4 + 4).toNatClampNeg), .inl (sc (v4 + 5).toNatClampNeg)] (fun l b hb hl => cf_X12_copy G l (sc (v4 + 1).toNatClampNeg) (sc (v4 + 2).toNatClampNeg) (sc (v4 + 3).toNatClampNeg) (sc (v4 + 4).toNatClampNeg) (sc (v4 + 5).toNatClampNeg) r169.2 b hb hl) me_X12_copy vi_RL_167 rfl rfl rfl rfl rfl dL_law_1434 (fun r170 => ?_)
  refine s_pop rfl dL_law_1437 ?_
  refine s_goto (tgt := 1466) dL_law_1438 (by decide) ?_
  refine s_iincw 6 (by decide) 0 [(4, .inl (v4 + 6)), (3, .inr (.inr (98, 0))), (2, .inr (.inr (12, 0))), (1, .inr (.inr (11, 0))), (0, .inr (.inr (99, 0)))] rfl rfl rfl dL_law_1466 ?_
  refine s_goto (tgt := 23) dL_law_1469 (by decide) ?_
  exact s_loc [0, 1, 2, 3, 4] rfl (hkb _ (Or.inl rfl) (v4 + 6) r170.2)
set_option maxRecDepth 20000 in
theorem sf_L_1441 {G : mG} {X : mX} {b n k : Nat} {sc : Nat → Int32} {kb : Int32 → mH → Option mH} (hX : lwX G X b n sc (k + 1)) (hkb : lwK G X kb) (v4 : Int32) (h : mH) : lwS G X (f_L_1441 sc n kb v4 h) 1441 [(4, .inl v4), (3, .inr (.inr (98, 0))), (2, .inr (.inr (12, 0))), (1, .inr (.inr (11, 0))), (0, .inr (.inr (99, 0)))] h := by
  unfold f_L_1441
  refine s_aload1 3 rfl dL_law_1441 ?_
  refine s_aload0 4 rfl dL_law_1442 ?_
  refine s_iload 0 rfl dL_law_1443 ?_
  refine s_k1 dL_law_1445 ?_
  refine s_iadd dL_law_1446 ?_
  refine s_chk (fun q172 => ?_)
  refine s_sld hX q172 dL_law_1447 ?_
  refine s_viI [.inl (sc (v4 + 1).toNatClampNeg)] (fun l b hb hl => cf_X11_count G l (sc (v4 + 1).toNatClampNeg) h b hb hl) me_X11_count vi_RL_168 rfl rfl rfl rfl rfl dL_law_1448 (fun r173 => ?_)
  refine s_pop rfl dL_law_1451 ?_
  refine s_aload2 2 rfl dL_law_1452 ?_
  refine s_aload0 4 rfl dL_law_1453 ?_
  refine s_iload 0 rfl dL_law_1454 ?_
  refine s_k1 dL_law_1456 ?_
  refine s_iadd dL_law_1457 ?_
  refine s_sld hX q172 dL_law_1458 ?_
  refine s_viI [.inl (sc (v4 + 1).toNatClampNeg)] (fun l b hb hl => cf_X12_count G l (sc (v4 + 1).toNatClampNeg) r173.2 b hb hl) me_X12_count vi_RL_171 rfl rfl rfl rfl rfl dL_law_1459 (fun r174 => ?_)
  refine s_pop rfl dL_law_1462 ?_
  refine s_goto (tgt := 1466) dL_law_1463 (by decide) ?_
  refine s_iincw 6 (by decide) 0 [(4, .inl (v4 + 6)), (3, .inr (.inr (98, 0))), (2, .inr (.inr (12, 0))), (1, .inr (.inr (11, 0))), (0, .inr (.inr (99, 0)))] rfl rfl rfl dL_law_1466 ?_
  refine s_goto (tgt := 23) dL_law_1469 (by decide) ?_
  exact s_loc [0, 1, 2, 3, 4] rfl (hkb _ (Or.inl rfl) (v4 + 6) r174.2)
set_option maxRecDepth 20000 in
theorem sf_L_23 {G : mG} {X : mX} {b n k : Nat} {sc : Nat → Int32} {kb : Int32 → mH → Option mH} (hX : lwX G X b n sc (k + 1)) (hkb : lwK G X kb) (v4 : Int32) (h : mH) : lwS G X (f_L_23 sc n kb v4 h) 23 [(4, .inl v4), (3, .inr (.inr (98, 0))), (2, .inr (.inr (12, 0))), (1, .inr (.inr (11, 0))), (0, .inr (.inr (99, 0)))] h := by
  unfold f_L_23
  refine s_iload 0 rfl dL_law_23 ?_
  refine s_aload0 4 rfl dL_law_25 ?_
  refine s_slen hX dL_law_26 ?_
  refine s_bip 6 kb_6 dL_law_27 ?_
  refine s_isub dL_law_29 ?_
  refine s_ic_gt (tgt := 1472) dL_law_30 (by decide) (fun q1 => ?_) (fun q1 => ?_)
  · skip
    refine s_k1 dL_law_1472 ?_
    exact s_lawret hX dL_law_1473
  · skip
    refine s_aload0 4 rfl dL_law_33 ?_
    refine s_iload 0 rfl dL_law_34 ?_
    refine s_chk (fun q2 => ?_)
    refine s_sld hX q2 dL_law_36 ?_
    refine s_bip 63 kb_63 dL_law_37 ?_
    refine s_iand dL_law_39 ?_
    refine s_case (fun q3 => ?_) (fun q3 => ?_)
    · skip
      refine s_tabP dL_law_40 0 q3 196 (by decide) (by decide) ?_
      exact s_loc [0, 1, 2, 3, 4] rfl (sf_L_196 hX hkb v4 h)
    refine s_case (fun q7 => ?_) (fun q7 => ?_)
    · skip
      refine s_tabP dL_law_40 1 q7 221 (by decide) (by decide) ?_
      exact s_loc [0, 1, 2, 3, 4] rfl (sf_L_221 hX hkb v4 h)
    refine s_case (fun q15 => ?_) (fun q15 => ?_)
    · skip
      refine s_tabP dL_law_40 2 q15 294 (by decide) (by decide) ?_
      exact s_loc [0, 1, 2, 3, 4] rfl (sf_L_294 hX hkb v4 h)
    refine s_case (fun q20 => ?_) (fun q20 => ?_)
    · skip
      refine s_tabP dL_law_40 3 q20 331 (by decide) (by decide) ?_
      exact s_loc [0, 1, 2, 3, 4] rfl (sf_L_331 hX hkb v4 h)
    refine s_case (fun q25 => ?_) (fun q25 => ?_)
    · skip
      refine s_tabP dL_law_40 4 q25 368 (by decide) (by decide) ?_
      exact s_loc [0, 1, 2, 3, 4] rfl (sf_L_368 hX hkb v4 h)
    refine s_case (fun q32 => ?_) (fun q32 => ?_)
    · skip
      refine s_tabP dL_law_40 5 q32 429 (by decide) (by decide) ?_
      exact s_loc [0, 1, 2, 3, 4] rfl (sf_L_429 hX hkb v4 h)
    refine s_case (fun q35 => ?_) (fun q35 => ?_)
    · skip
      refine s_tabP dL_law_40 6 q35 442 (by decide) (by decide) ?_
      exact s_loc [0, 1, 2, 3, 4] rfl (sf_L_442 hX hkb v4 h)
    refine s_case (fun q43 => ?_) (fun q43 => ?_)
    · skip
      refine s_tabP dL_law_40 7 q43 515 (by decide) (by decide) ?_
      exact s_loc [0, 1, 2, 3, 4] rfl (sf_L_515 hX hkb v4 h)
    refine s_case (fun q47 => ?_) (fun q47 => ?_)
    · skip
      refine s_tabP dL_law_40 8 q47 540 (by decide) (by decide) ?_
      exact s_loc [0, 1, 2, 3, 4] rfl (sf_L_540 hX hkb v4 h)
    refine s_case (fun q52 => ?_) (fun q52 => ?_)
    · skip
      refine s_tabP dL_law_40 9 q52 577 (by decide) (by decide) ?_
      exact s_loc [0, 1, 2, 3, 4] rfl (sf_L_577 hX hkb v4 h)
    refine s_case (fun q56 => ?_) (fun q56 => ?_)
    · skip
      refine s_tabP dL_law_40 10 q56 602 (by decide) (by decide) ?_
      exact s_loc [0, 1, 2, 3, 4] rfl (sf_L_602 hX hkb v4 h)
    refine s_case (fun q60 => ?_) (fun q60 => ?_)
    · skip
      refine s_tabP dL_law_40 11 q60 627 (by decide) (by decide) ?_
      exact s_loc [0, 1, 2, 3, 4] rfl (sf_L_627 hX hkb v4 h)
    refine s_case (fun q66 => ?_) (fun q66 => ?_)
    · skip
      refine s_tabP dL_law_40 12 q66 676 (by decide) (by decide) ?_
      exact s_loc [0, 1, 2, 3, 4] rfl (sf_L_676 hX hkb v4 h)
    refine s_case (fun q72 => ?_) (fun q72 => ?_)
    · skip
      refine s_tabP dL_law_40 13 q72 713 (by decide) (by decide) ?_
      exact s_loc [0, 1, 2, 3, 4] rfl (sf_L_713 hX hkb v4 h)
    refine s_case (fun q75 => ?_) (fun q75 => ?_)
    · skip
      refine s_tabP dL_law_40 14 q75 726 (by decide) (by decide) ?_
      exact s_loc [0, 1, 2, 3, 4] rfl (sf_L_726 hX hkb v4 h)
    refine s_case (fun q81 => ?_) (fun q81 => ?_)
    · skip
      refine s_tabP dL_law_40 15 q81 775 (by decide) (by decide) ?_
      exact s_loc [0, 1, 2, 3, 4] rfl (sf_L_775 hX hkb v4 h)
    refine s_case (fun q85 => ?_) (fun q85 => ?_)
    · skip
      refine s_tabP dL_law_40 16 q85 800 (by decide) (by decide) ?_
      exact s_loc [0, 1, 2, 3, 4] rfl (sf_L_800 hX hkb v4 h)
    refine s_case (fun q89 => ?_) (fun q89 => ?_)
    · skip
      refine s_tabP dL_law_40 17 q89 825 (by decide) (by decide) ?_
      exact s_loc [0, 1, 2, 3, 4] rfl (sf_L_825 hX hkb v4 h)
    refine s_case (fun q94 => ?_) (fun q94 => ?_)
    · skip
      refine s_tabP dL_law_40 18 q94 862 (by decide) (by decide) ?_
      exact s_loc [0, 1, 2, 3, 4] rfl (sf_L_862 hX hkb v4 h)
    refine s_case (fun q98 => ?_) (fun q98 => ?_)
    · skip
      refine s_tabP dL_law_40 19 q98 887 (by decide) (by decide) ?_
      exact s_loc [0, 1, 2, 3, 4] rfl (sf_L_887 hX hkb v4 h)
    refine s_case (fun q103 => ?_) (fun q103 => ?_)
    · skip
      refine s_tabP dL_law_40 20 q103 924 (by decide) (by decide) ?_
      exact s_loc [0, 1, 2, 3, 4] rfl (sf_L_924 hX hkb v4 h)
    refine s_case (fun q107 => ?_) (fun q107 => ?_)
    · skip
      refine s_tabP dL_law_40 21 q107 949 (by decide) (by decide) ?_
      exact s_loc [0, 1, 2, 3, 4] rfl (sf_L_949 hX hkb v4 h)
    refine s_case (fun q110 => ?_) (fun q110 => ?_)
    · skip
      refine s_tabP dL_law_40 22 q110 962 (by decide) (by decide) ?_
      exact s_loc [0, 1, 2, 3, 4] rfl (sf_L_962 hX hkb v4 h)
    refine s_case (fun q114 => ?_) (fun q114 => ?_)
    · skip
      refine s_tabP dL_law_40 23 q114 987 (by decide) (by decide) ?_
      exact s_loc [0, 1, 2, 3, 4] rfl (sf_L_987 hX hkb v4 h)
    refine s_case (fun q119 => ?_) (fun q119 => ?_)
    · skip
      refine s_tabP dL_law_40 24 q119 1024 (by decide) (by decide) ?_
      exact s_loc [0, 1, 2, 3, 4] rfl (sf_L_1024 hX hkb v4 h)
    refine s_case (fun q123 => ?_) (fun q123 => ?_)
    · skip
      refine s_tabP dL_law_40 25 q123 1049 (by decide) (by decide) ?_
      exact s_loc [0, 1, 2, 3, 4] rfl (sf_L_1049 hX hkb v4 h)
    refine s_case (fun q129 => ?_) (fun q129 => ?_)
    · skip
      refine s_tabP dL_law_40 26 q129 1098 (by decide) (by decide) ?_
      exact s_loc [0, 1, 2, 3, 4] rfl (sf_L_1098 hX hkb v4 h)
    refine s_case (fun q133 => ?_) (fun q133 => ?_)
    · skip
      refine s_tabP dL_law_40 27 q133 1123 (by decide) (by decide) ?_
      exact s_loc [0, 1, 2, 3, 4] rfl (sf_L_1123 hX hkb v4 h)
    refine s_case (fun q137 => ?_) (fun q137 => ?_)
    · skip
      refine s_tabP dL_law_40 28 q137 1148 (by decide) (by decide) ?_
      exact s_loc [0, 1, 2, 3, 4] rfl (sf_L_1148 hX hkb v4 h)
    refine s_case (fun q141 => ?_) (fun q141 => ?_)
    · skip
      refine s_tabP dL_law_40 29 q141 1173 (by decide) (by decide) ?_
      exact s_loc [0, 1, 2, 3, 4] rfl (sf_L_1173 hX hkb v4 h)
    refine s_case (fun q147 => ?_) (fun q147 => ?_)
    · skip
      refine s_tabP dL_law_40 30 q147 1222 (by decide) (by decide) ?_
      exact s_loc [0, 1, 2, 3, 4] rfl (sf_L_1222 hX hkb v4 h)
    refine s_case (fun q151 => ?_) (fun q151 => ?_)
    · skip
      refine s_tabP dL_law_40 31 q151 1247 (by decide) (by decide) ?_
      exact s_loc [0, 1, 2, 3, 4] rfl (sf_L_1247 hX hkb v4 h)
    refine s_case (fun q158 => ?_) (fun q158 => ?_)
    · skip
      refine s_tabP dL_law_40 32 q158 1328 (by decide) (by decide) ?_
      exact s_loc [0, 1, 2, 3, 4] rfl (sf_L_1328 hX hkb v4 h)
    refine s_case (fun q163 => ?_) (fun q163 => ?_)
    · skip
      refine s_tabP dL_law_40 33 q163 1368 (by decide) (by decide) ?_
      exact s_loc [0, 1, 2, 3, 4] rfl (sf_L_1368 hX hkb v4 h)
    refine s_case (fun q171 => ?_) (fun q171 => ?_)
    · skip
      refine s_tabP dL_law_40 34 q171 1441 (by decide) (by decide) ?_
      exact s_loc [0, 1, 2, 3, 4] rfl (sf_L_1441 hX hkb v4 h)
    refine s_tabD dL_law_40 [0, 1, 2, 3, 4, 5, 6, 7, 8, 9, 10, 11, 12, 13, 14, 15, 16, 17, 18, 19, 20, 21, 22, 23, 24, 25, 26, 27, 28, 29, 30, 31, 32, 33, 34] (by refine List.forall_mem_cons.mpr ⟨q3, ?_⟩; refine List.forall_mem_cons.mpr ⟨q7, ?_⟩; refine List.forall_mem_cons.mpr ⟨q15, ?_⟩; refine List.forall_mem_cons.mpr ⟨q20, ?_⟩; refine List.forall_mem_cons.mpr ⟨q25, ?_⟩; refine List.forall_mem_cons.mpr ⟨q32, ?_⟩; refine List.forall_mem_cons.mpr ⟨q35, ?_⟩; refine List.forall_mem_cons.mpr ⟨q43, ?_⟩; refine List.forall_mem_cons.mpr ⟨q47, ?_⟩; refine List.forall_mem_cons.mpr ⟨q52, ?_⟩; refine List.forall_mem_cons.mpr ⟨q56, ?_⟩; refine List.forall_mem_cons.mpr ⟨q60, ?_⟩; refine List.forall_mem_cons.mpr ⟨q66, ?_⟩; refine List.forall_mem_cons.mpr ⟨q72, ?_⟩; refine List.forall_mem_cons.mpr ⟨q75, ?_⟩; refine List.forall_mem_cons.mpr ⟨q81, ?_⟩; refine List.forall_mem_cons.mpr ⟨q85, ?_⟩; refine List.forall_mem_cons.mpr ⟨q89, ?_⟩; refine List.forall_mem_cons.mpr ⟨q94, ?_⟩; refine List.forall_mem_cons.mpr ⟨q98, ?_⟩; refine List.forall_mem_cons.mpr ⟨q103, ?_⟩; refine List.forall_mem_cons.mpr ⟨q107, ?_⟩; refine List.forall_mem_cons.mpr ⟨q110, ?_⟩; refine List.forall_mem_cons.mpr ⟨q114, ?_⟩; refine List.forall_mem_cons.mpr ⟨q119, ?_⟩; refine List.forall_mem_cons.mpr ⟨q123, ?_⟩; refine List.forall_mem_cons.mpr ⟨q129, ?_⟩; refine List.forall_mem_cons.mpr ⟨q133, ?_⟩; refine List.forall_mem_cons.mpr ⟨q137, ?_⟩; refine List.forall_mem_cons.mpr ⟨q141, ?_⟩; refine List.forall_mem_cons.mpr ⟨q147, ?_⟩; refine List.forall_mem_cons.mpr ⟨q151, ?_⟩; refine List.forall_mem_cons.mpr ⟨q158, ?_⟩; refine List.forall_mem_cons.mpr ⟨q163, ?_⟩; refine List.forall_mem_cons.mpr ⟨q171, ?_⟩; exact fun _ z => absurd z List.not_mem_nil) (by decide) (by decide) 1466 (by decide) ?_
    · skip
      refine s_iincw 6 (by decide) 0 [(4, .inl (v4 + 6)), (3, .inr (.inr (98, 0))), (2, .inr (.inr (12, 0))), (1, .inr (.inr (11, 0))), (0, .inr (.inr (99, 0)))] rfl rfl rfl dL_law_1466 ?_
      refine s_goto (tgt := 23) dL_law_1469 (by decide) ?_
      exact s_loc [0, 1, 2, 3, 4] rfl (hkb _ (Or.inl rfl) (v4 + 6) h)
