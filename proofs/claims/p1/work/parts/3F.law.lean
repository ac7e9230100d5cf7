/-! ===== the law's loop: a function a case, and their Sim rows ===== -/
def f_L_196 (sc : Nat → Int32) (n : Nat) (kb : Int32 → mH → Option mH) (v4 : Int32) (h : mH) : Option mH :=
  if mIn (v4 + 1) n = true then
  (f_X11_begin (sc (v4 + 1).toNatClampNeg) h).bind fun r5 =>
  (f_X12_begin (sc (v4 + 1).toNatClampNeg) r5.2).bind fun r6 =>
  if r5.1 = r6.1 then
    kb (v4 + 6) r6.2
  else
    none
  else none
def f_L_221 (sc : Nat → Int32) (n : Nat) (kb : Int32 → mH → Option mH) (v4 : Int32) (h : mH) : Option mH :=
  if mIn (v4 + 1) n = true then
  if mIn (v4 + 2) n = true then
  if mIn (v4 + 3) n = true then
  if mIn (v4 + 4) n = true then
  if mIn (v4 + 5) n = true then
  (f_X11_field (sc (v4 + 1).toNatClampNeg) (sc (v4 + 2).toNatClampNeg) (sc (v4 + 3).toNatClampNeg) (sc (v4 + 4).toNatClampNeg) (sc (v4 + 5).toNatClampNeg) h).bind fun r14 =>
  (f_X12_field (sc (v4 + 1).toNatClampNeg) (sc (v4 + 2).toNatClampNeg) (sc (v4 + 3).toNatClampNeg) (sc (v4 + 4).toNatClampNeg) (sc (v4 + 5).toNatClampNeg) r14.2).bind fun r15 =>
  if r14.1 = r15.1 then
    kb (v4 + 6) r15.2
  else
    none
  else none
  else none
  else none
  else none
  else none
def f_L_294 (sc : Nat → Int32) (n : Nat) (kb : Int32 → mH → Option mH) (v4 : Int32) (h : mH) : Option mH :=
  if mIn (v4 + 1) n = true then
  if mIn (v4 + 2) n = true then
  (f_X11_period (sc (v4 + 1).toNatClampNeg) (sc (v4 + 2).toNatClampNeg) h).bind fun r20 =>
  (f_X12_period (sc (v4 + 1).toNatClampNeg) (sc (v4 + 2).toNatClampNeg) r20.2).bind fun r21 =>
  if r20.1 = r21.1 then
    kb (v4 + 6) r21.2
  else
    none
  else none
  else none
def f_L_331 (sc : Nat → Int32) (n : Nat) (kb : Int32 → mH → Option mH) (v4 : Int32) (h : mH) : Option mH :=
  if mIn (v4 + 1) n = true then
  if mIn (v4 + 2) n = true then
  (f_X11_done (sc (v4 + 1).toNatClampNeg) (sc (v4 + 2).toNatClampNeg) h).bind fun r26 =>
  (f_X12_done (sc (v4 + 1).toNatClampNeg) (sc (v4 + 2).toNatClampNeg) r26.2).bind fun r27 =>
  if r26.1 = r27.1 then
    kb (v4 + 6) r27.2
  else
    none
  else none
  else none
def f_L_368 (sc : Nat → Int32) (n : Nat) (kb : Int32 → mH → Option mH) (v4 : Int32) (h : mH) : Option mH :=
  if mIn (v4 + 1) n = true then
  if mIn (v4 + 2) n = true then
  if mIn (v4 + 3) n = true then
  if mIn (v4 + 4) n = true then
  (f_X11_law (sc (v4 + 1).toNatClampNeg) (sc (v4 + 2).toNatClampNeg) (sc (v4 + 3).toNatClampNeg) (sc (v4 + 4).toNatClampNeg) h).bind fun r34 =>
  (f_X12_law (sc (v4 + 1).toNatClampNeg) (sc (v4 + 2).toNatClampNeg) (sc (v4 + 3).toNatClampNeg) (sc (v4 + 4).toNatClampNeg) r34.2).bind fun r35 =>
  if r34.1 = r35.1 then
    kb (v4 + 6) r35.2
  else
    none
  else none
  else none
  else none
  else none
def f_L_429 (sc : Nat → Int32) (n : Nat) (kb : Int32 → mH → Option mH) (v4 : Int32) (h : mH) : Option mH :=
  (f_X11_act  h).bind fun r38 =>
  (f_X12_act  r38.2).bind fun r39 =>
  if r38.1 = r39.1 then
    kb (v4 + 6) r39.2
  else
    none
def f_L_442 (sc : Nat → Int32) (n : Nat) (kb : Int32 → mH → Option mH) (v4 : Int32) (h : mH) : Option mH :=
  if mIn (v4 + 1) n = true then
  if mIn (v4 + 2) n = true then
  if mIn (v4 + 3) n = true then
  if mIn (v4 + 4) n = true then
  if mIn (v4 + 5) n = true then
  (f_X11_step (sc (v4 + 1).toNatClampNeg) (sc (v4 + 2).toNatClampNeg) (sc (v4 + 3).toNatClampNeg) (sc (v4 + 4).toNatClampNeg) (sc (v4 + 5).toNatClampNeg) h).bind fun r47 =>
  (f_X12_step (sc (v4 + 1).toNatClampNeg) (sc (v4 + 2).toNatClampNeg) (sc (v4 + 3).toNatClampNeg) (sc (v4 + 4).toNatClampNeg) (sc (v4 + 5).toNatClampNeg) r47.2).bind fun r48 =>
  if r47.1 = r48.1 then
    kb (v4 + 6) r48.2
  else
    none
  else none
  else none
  else none
  else none
  else none
def f_L_515 (sc : Nat → Int32) (n : Nat) (kb : Int32 → mH → Option mH) (v4 : Int32) (h : mH) : Option mH :=
  if mIn (v4 + 1) n = true then
  (f_X11_bare (sc (v4 + 1).toNatClampNeg) h).bind fun r52 =>
  (f_X12_bare (sc (v4 + 1).toNatClampNeg) r52.2).bind fun r53 =>
  if r52.1 = r53.1 then
    kb (v4 + 6) r53.2
  else
    none
  else none
def f_L_540 (sc : Nat → Int32) (n : Nat) (kb : Int32 → mH → Option mH) (v4 : Int32) (h : mH) : Option mH :=
  if mIn (v4 + 1) n = true then
  if mIn (v4 + 2) n = true then
  (f_X11_handler (sc (v4 + 1).toNatClampNeg) (sc (v4 + 2).toNatClampNeg) h).bind fun r58 =>
  (f_X12_handler (sc (v4 + 1).toNatClampNeg) (sc (v4 + 2).toNatClampNeg) r58.2).bind fun r59 =>
  if r58.1 = r59.1 then
    kb (v4 + 6) r59.2
  else
    none
  else none
  else none
def f_L_577 (sc : Nat → Int32) (n : Nat) (kb : Int32 → mH → Option mH) (v4 : Int32) (h : mH) : Option mH :=
  if mIn (v4 + 1) n = true then
  (f_X11_locks (sc (v4 + 1).toNatClampNeg) h).bind fun r63 =>
  (f_X12_locks (sc (v4 + 1).toNatClampNeg) r63.2).bind fun r64 =>
  if r63.1 = r64.1 then
    kb (v4 + 6) r64.2
  else
    none
  else none
def f_L_602 (sc : Nat → Int32) (n : Nat) (kb : Int32 → mH → Option mH) (v4 : Int32) (h : mH) : Option mH :=
  if mIn (v4 + 1) n = true then
  (f_X11_code (sc (v4 + 1).toNatClampNeg) h).bind fun r68 =>
  (f_X12_code (sc (v4 + 1).toNatClampNeg) r68.2).bind fun r69 =>
  if r68.1 = r69.1 then
    kb (v4 + 6) r69.2
  else
    none
  else none
def f_L_627 (sc : Nat → Int32) (n : Nat) (kb : Int32 → mH → Option mH) (v4 : Int32) (h : mH) : Option mH :=
  if mIn (v4 + 1) n = true then
  if mIn (v4 + 2) n = true then
  if mIn (v4 + 3) n = true then
  (f_X11_op (sc (v4 + 1).toNatClampNeg) (sc (v4 + 2).toNatClampNeg) (sc (v4 + 3).toNatClampNeg) h).bind fun r75 =>
  (f_X12_op (sc (v4 + 1).toNatClampNeg) (sc (v4 + 2).toNatClampNeg) (sc (v4 + 3).toNatClampNeg) r75.2).bind fun r76 =>
  if r75.1 = r76.1 then
    kb (v4 + 6) r76.2
  else
    none
  else none
  else none
  else none
def f_L_676 (sc : Nat → Int32) (n : Nat) (kb : Int32 → mH → Option mH) (v4 : Int32) (h : mH) : Option mH :=
  if mIn (v4 + 1) n = true then
  if mIn (v4 + 2) n = true then
  (f_X11_same (sc (v4 + 1).toNatClampNeg) (sc (v4 + 2).toNatClampNeg) h).bind fun r81 =>
  (f_X12_same (sc (v4 + 1).toNatClampNeg) (sc (v4 + 2).toNatClampNeg) r81.2).bind fun r82 =>
  if r81.1 = r82.1 then
    kb (v4 + 6) r82.2
  else
    none
  else none
  else none
def f_L_713 (sc : Nat → Int32) (n : Nat) (kb : Int32 → mH → Option mH) (v4 : Int32) (h : mH) : Option mH :=
  (f_X11_power  h).bind fun r85 =>
  (f_X12_power  r85.2).bind fun r86 =>
  if r85.1 = r86.1 then
    kb (v4 + 6) r86.2
  else
    none
def f_L_726 (sc : Nat → Int32) (n : Nat) (kb : Int32 → mH → Option mH) (v4 : Int32) (h : mH) : Option mH :=
  if mIn (v4 + 1) n = true then
  if mIn (v4 + 2) n = true then
  if mIn (v4 + 3) n = true then
  (f_X11_event (sc (v4 + 1).toNatClampNeg) (sc (v4 + 2).toNatClampNeg) (sc (v4 + 3).toNatClampNeg) h).bind fun r92 =>
  (f_X12_event (sc (v4 + 1).toNatClampNeg) (sc (v4 + 2).toNatClampNeg) (sc (v4 + 3).toNatClampNeg) r92.2).bind fun r93 =>
  if r92.1 = r93.1 then
    kb (v4 + 6) r93.2
  else
    none
  else none
  else none
  else none
def f_L_775 (sc : Nat → Int32) (n : Nat) (kb : Int32 → mH → Option mH) (v4 : Int32) (h : mH) : Option mH :=
  if mIn (v4 + 1) n = true then
  (f_X11_run (sc (v4 + 1).toNatClampNeg) h).bind fun r97 =>
  (f_X12_run (sc (v4 + 1).toNatClampNeg) r97.2).bind fun r98 =>
  if r97.1 = r98.1 then
    kb (v4 + 6) r98.2
  else
    none
  else none
def f_L_800 (sc : Nat → Int32) (n : Nat) (kb : Int32 → mH → Option mH) (v4 : Int32) (h : mH) : Option mH :=
  if mIn (v4 + 1) n = true then
  (f_X11_read (sc (v4 + 1).toNatClampNeg) h).bind fun r102 =>
  (f_X12_read (sc (v4 + 1).toNatClampNeg) r102.2).bind fun r103 =>
  if r102.1 = r103.1 then
    kb (v4 + 6) r103.2
  else
    none
  else none
def f_L_825 (sc : Nat → Int32) (n : Nat) (kb : Int32 → mH → Option mH) (v4 : Int32) (h : mH) : Option mH :=
  if mIn (v4 + 1) n = true then
  if mIn (v4 + 2) n = true then
  (f_X11_write (sc (v4 + 1).toNatClampNeg) (sc (v4 + 2).toNatClampNeg) h).bind fun r108 =>
  (f_X12_write (sc (v4 + 1).toNatClampNeg) (sc (v4 + 2).toNatClampNeg) r108.2).bind fun r109 =>
  if r108.1 = r109.1 then
    kb (v4 + 6) r109.2
  else
    none
  else none
  else none
def f_L_862 (sc : Nat → Int32) (n : Nat) (kb : Int32 → mH → Option mH) (v4 : Int32) (h : mH) : Option mH :=
  if mIn (v4 + 1) n = true then
  (f_X11_wait (sc (v4 + 1).toNatClampNeg) h).bind fun r113 =>
  (f_X12_wait (sc (v4 + 1).toNatClampNeg) r113.2).bind fun r114 =>
  if r113.1 = r114.1 then
    kb (v4 + 6) r114.2
  else
    none
  else none
def f_L_887 (sc : Nat → Int32) (n : Nat) (kb : Int32 → mH → Option mH) (v4 : Int32) (h : mH) : Option mH :=
  if mIn (v4 + 1) n = true then
  if mIn (v4 + 2) n = true then
  (f_X11_peek (sc (v4 + 1).toNatClampNeg) (sc (v4 + 2).toNatClampNeg) h).bind fun r119 =>
  (f_X12_peek (sc (v4 + 1).toNatClampNeg) (sc (v4 + 2).toNatClampNeg) r119.2).bind fun r120 =>
  if r119.1 = r120.1 then
    kb (v4 + 6) r120.2
  else
    none
  else none
  else none
def f_L_924 (sc : Nat → Int32) (n : Nat) (kb : Int32 → mH → Option mH) (v4 : Int32) (h : mH) : Option mH :=
  if mIn (v4 + 1) n = true then
  (f_X11_shadow (sc (v4 + 1).toNatClampNeg) h).bind fun r124 =>
  (f_X12_shadow (sc (v4 + 1).toNatClampNeg) r124.2).bind fun r125 =>
  if r124.1 = r125.1 then
    kb (v4 + 6) r125.2
  else
    none
  else none
def f_L_949 (sc : Nat → Int32) (n : Nat) (kb : Int32 → mH → Option mH) (v4 : Int32) (h : mH) : Option mH :=
  (f_X11_result  h).bind fun r128 =>
  (f_X12_result  r128.2).bind fun r129 =>
  if r128.1 = r129.1 then
    kb (v4 + 6) r129.2
  else
    none
def f_L_962 (sc : Nat → Int32) (n : Nat) (kb : Int32 → mH → Option mH) (v4 : Int32) (h : mH) : Option mH :=
  if mIn (v4 + 1) n = true then
  (f_X11_breaks (sc (v4 + 1).toNatClampNeg) h).bind fun r133 =>
  (f_X12_breaks (sc (v4 + 1).toNatClampNeg) r133.2).bind fun r134 =>
  if r133.1 = r134.1 then
    kb (v4 + 6) r134.2
  else
    none
  else none
def f_L_987 (sc : Nat → Int32) (n : Nat) (kb : Int32 → mH → Option mH) (v4 : Int32) (h : mH) : Option mH :=
  if mIn (v4 + 1) n = true then
  if mIn (v4 + 2) n = true then
  (f_X11_walk (sc (v4 + 1).toNatClampNeg) (sc (v4 + 2).toNatClampNeg) h).bind fun r139 =>
  (f_X12_walk (sc (v4 + 1).toNatClampNeg) (sc (v4 + 2).toNatClampNeg) r139.2).bind fun r140 =>
  if r139.1 = r140.1 then
    kb (v4 + 6) r140.2
  else
    none
  else none
  else none
def f_L_1024 (sc : Nat → Int32) (n : Nat) (kb : Int32 → mH → Option mH) (v4 : Int32) (h : mH) : Option mH :=
  if mIn (v4 + 1) n = true then
  (f_X11_why (sc (v4 + 1).toNatClampNeg) h).bind fun r144 =>
  (f_X12_why (sc (v4 + 1).toNatClampNeg) r144.2).bind fun r145 =>
  if r144.1 = r145.1 then
    kb (v4 + 6) r145.2
  else
    none
  else none
def f_L_1049 (sc : Nat → Int32) (n : Nat) (kb : Int32 → mH → Option mH) (v4 : Int32) (h : mH) : Option mH :=
  if mIn (v4 + 1) n = true then
  if mIn (v4 + 2) n = true then
  if mIn (v4 + 3) n = true then
  (f_X11_tape (sc (v4 + 1).toNatClampNeg) (sc (v4 + 2).toNatClampNeg) (sc (v4 + 3).toNatClampNeg) h).bind fun r151 =>
  (f_X12_tape (sc (v4 + 1).toNatClampNeg) (sc (v4 + 2).toNatClampNeg) (sc (v4 + 3).toNatClampNeg) r151.2).bind fun r152 =>
  if r151.1 = r152.1 then
    kb (v4 + 6) r152.2
  else
    none
  else none
  else none
  else none
def f_L_1098 (sc : Nat → Int32) (n : Nat) (kb : Int32 → mH → Option mH) (v4 : Int32) (h : mH) : Option mH :=
  if mIn (v4 + 1) n = true then
  (f_X11_image (sc (v4 + 1).toNatClampNeg) h).bind fun r156 =>
  (f_X12_image (sc (v4 + 1).toNatClampNeg) r156.2).bind fun r157 =>
  if r156.1 = r157.1 then
    kb (v4 + 6) r157.2
  else
    none
  else none
def f_L_1123 (sc : Nat → Int32) (n : Nat) (kb : Int32 → mH → Option mH) (v4 : Int32) (h : mH) : Option mH :=
  if mIn (v4 + 1) n = true then
  (f_X11_back (sc (v4 + 1).toNatClampNeg) h).bind fun r161 =>
  (f_X12_back (sc (v4 + 1).toNatClampNeg) r161.2).bind fun r162 =>
  if r161.1 = r162.1 then
    kb (v4 + 6) r162.2
  else
    none
  else none
def f_L_1148 (sc : Nat → Int32) (n : Nat) (kb : Int32 → mH → Option mH) (v4 : Int32) (h : mH) : Option mH :=
  if mIn (v4 + 1) n = true then
  (f_X11_toss (sc (v4 + 1).toNatClampNeg) h).bind fun r166 =>
  (f_X12_toss (sc (v4 + 1).toNatClampNeg) r166.2).bind fun r167 =>
  if r166.1 = r167.1 then
    kb (v4 + 6) r167.2
  else
    none
  else none
def f_L_1173 (sc : Nat → Int32) (n : Nat) (kb : Int32 → mH → Option mH) (v4 : Int32) (h : mH) : Option mH :=
  if mIn (v4 + 1) n = true then
  if mIn (v4 + 2) n = true then
  if mIn (v4 + 3) n = true then
  (f_X11_play (sc (v4 + 1).toNatClampNeg) (sc (v4 + 2).toNatClampNeg) (sc (v4 + 3).toNatClampNeg) h).bind fun r173 =>
  (f_X12_play (sc (v4 + 1).toNatClampNeg) (sc (v4 + 2).toNatClampNeg) (sc (v4 + 3).toNatClampNeg) r173.2).bind fun r174 =>
  if r173.1 = r174.1 then
    kb (v4 + 6) r174.2
  else
    none
  else none
  else none
  else none
def f_L_1222 (sc : Nat → Int32) (n : Nat) (kb : Int32 → mH → Option mH) (v4 : Int32) (h : mH) : Option mH :=
  if mIn (v4 + 1) n = true then
  (f_X11_clear (sc (v4 + 1).toNatClampNeg) h).bind fun r178 =>
  (f_X12_clear (sc (v4 + 1).toNatClampNeg) r178.2).bind fun r179 =>
  if r178.1 = r179.1 then
    kb (v4 + 6) r179.2
  else
    none
  else none
def f_L_1247 (sc : Nat → Int32) (n : Nat) (kb : Int32 → mH → Option mH) (v4 : Int32) (h : mH) : Option mH :=
  if mIn (v4 + 1) n = true then
  if mIn (v4 + 2) n = true then
  if mIn (v4 + 3) n = true then
  if mIn (v4 + 4) n = true then
  (f_X11_put (sc (v4 + 1).toNatClampNeg) (sc (v4 + 2).toNatClampNeg) ((((sc (v4 + 3).toNatClampNeg).toInt64) <<< ((32 : Int32).toInt64 &&& 63)) ||| (((sc (v4 + 4).toNatClampNeg).toInt64) &&& 4294967295)) h).bind fun r186 =>
  (f_X12_put (sc (v4 + 1).toNatClampNeg) (sc (v4 + 2).toNatClampNeg) ((((sc (v4 + 3).toNatClampNeg).toInt64) <<< ((32 : Int32).toInt64 &&& 63)) ||| (((sc (v4 + 4).toNatClampNeg).toInt64) &&& 4294967295)) r186.2).bind fun r187 =>
  if r186.1 = r187.1 then
    kb (v4 + 6) r187.2
  else
    none
  else none
  else none
  else none
  else none
def f_L_1328 (sc : Nat → Int32) (n : Nat) (kb : Int32 → mH → Option mH) (v4 : Int32) (h : mH) : Option mH :=
  if mIn (v4 + 1) n = true then
  if mIn (v4 + 2) n = true then
  (f_L_at (sc (v4 + 1).toNatClampNeg) (sc (v4 + 2).toNatClampNeg) h).bind fun r192 =>
  (f_X12_at (sc (v4 + 1).toNatClampNeg) (sc (v4 + 2).toNatClampNeg) r192.2).bind fun r193 =>
  (f_X12_thrown  r193.2).bind fun r194 =>
  if r194.1 = r192.1 then
    if r192.1 = 0 then
      if (lg_cmp (r194.2.2 98 0 (0 : Int32).toNatClampNeg) r193.1) = 0 then
        kb (v4 + 6) r194.2
      else
        none
    else
      kb (v4 + 6) r194.2
  else
    none
  else none
  else none
def f_L_1395 (sc : Nat → Int32) (n : Nat) (kb : Int32 → mH → Option mH) (v4 : Int32) (h : mH) : Option mH :=
  if mIn (v4 + 1) n = true then
  if mIn (v4 + 2) n = true then
  if mIn (v4 + 3) n = true then
  if mIn (v4 + 4) n = true then
  if mIn (v4 + 5) n = true then
  (f_X11_copy (sc (v4 + 1).toNatClampNeg) (sc (v4 + 2).toNatClampNeg) (sc (v4 + 3).toNatClampNeg) (sc (v4 + 4).toNatClampNeg) (sc (v4 + 5).toNatClampNeg) h).bind fun r204 =>
  (f_X12_copy (sc (v4 + 1).toNatClampNeg) (sc (v4 + 2).toNatClampNeg) (sc (v4 + 3).toNatClampNeg) (sc (v4 + 4).toNatClampNeg) (sc (v4 + 5).toNatClampNeg) r204.2).bind fun r205 =>
  if r204.1 = r205.1 then
    kb (v4 + 6) r205.2
  else
    none
  else none
  else none
  else none
  else none
  else none
def f_L_1468 (sc : Nat → Int32) (n : Nat) (kb : Int32 → mH → Option mH) (v4 : Int32) (h : mH) : Option mH :=
  if mIn (v4 + 1) n = true then
  (f_X11_count (sc (v4 + 1).toNatClampNeg) h).bind fun r209 =>
  (f_X12_count (sc (v4 + 1).toNatClampNeg) r209.2).bind fun r210 =>
  if r209.1 = r210.1 then
    kb (v4 + 6) r210.2
  else
    none
  else none
def f_L_23 (sc : Nat → Int32) (n : Nat) (kb : Int32 → mH → Option mH) (v4 : Int32) (h : mH) : Option mH :=
  if v4 ≤ ((Int32.ofNat n) - 6) then
    if mIn v4 n = true then
    if ((sc v4.toNatClampNeg) &&& 63) = 0 then
      f_L_196 sc n kb v4 h
    else
    if ((sc v4.toNatClampNeg) &&& 63) = 1 then
      f_L_221 sc n kb v4 h
    else
    if ((sc v4.toNatClampNeg) &&& 63) = 2 then
      f_L_294 sc n kb v4 h
    else
    if ((sc v4.toNatClampNeg) &&& 63) = 3 then
      f_L_331 sc n kb v4 h
    else
    if ((sc v4.toNatClampNeg) &&& 63) = 4 then
      f_L_368 sc n kb v4 h
    else
    if ((sc v4.toNatClampNeg) &&& 63) = 5 then
      f_L_429 sc n kb v4 h
    else
    if ((sc v4.toNatClampNeg) &&& 63) = 6 then
      f_L_442 sc n kb v4 h
    else
    if ((sc v4.toNatClampNeg) &&& 63) = 7 then
      f_L_515 sc n kb v4 h
    else
    if ((sc v4.toNatClampNeg) &&& 63) = 8 then
      f_L_540 sc n kb v4 h
    else
    if ((sc v4.toNatClampNeg) &&& 63) = 9 then
      f_L_577 sc n kb v4 h
    else
    if ((sc v4.toNatClampNeg) &&& 63) = 10 then
      f_L_602 sc n kb v4 h
    else
    if ((sc v4.toNatClampNeg) &&& 63) = 11 then
      f_L_627 sc n kb v4 h
    else
    if ((sc v4.toNatClampNeg) &&& 63) = 12 then
      f_L_676 sc n kb v4 h
    else
    if ((sc v4.toNatClampNeg) &&& 63) = 13 then
      f_L_713 sc n kb v4 h
    else
    if ((sc v4.toNatClampNeg) &&& 63) = 14 then
      f_L_726 sc n kb v4 h
    else
    if ((sc v4.toNatClampNeg) &&& 63) = 15 then
      f_L_775 sc n kb v4 h
    else
    if ((sc v4.toNatClampNeg) &&& 63) = 16 then
      f_L_800 sc n kb v4 h
    else
    if ((sc v4.toNatClampNeg) &&& 63) = 17 then
      f_L_825 sc n kb v4 h
    else
    if ((sc v4.toNatClampNeg) &&& 63) = 18 then
      f_L_862 sc n kb v4 h
    else
    if ((sc v4.toNatClampNeg) &&& 63) = 19 then
      f_L_887 sc n kb v4 h
    else
    if ((sc v4.toNatClampNeg) &&& 63) = 20 then
      f_L_924 sc n kb v4 h
    else
    if ((sc v4.toNatClampNeg) &&& 63) = 21 then
      f_L_949 sc n kb v4 h
    else
    if ((sc v4.toNatClampNeg) &&& 63) = 22 then
      f_L_962 sc n kb v4 h
    else
    if ((sc v4.toNatClampNeg) &&& 63) = 23 then
      f_L_987 sc n kb v4 h
    else
    if ((sc v4.toNatClampNeg) &&& 63) = 24 then
      f_L_1024 sc n kb v4 h
    else
    if ((sc v4.toNatClampNeg) &&& 63) = 25 then
      f_L_1049 sc n kb v4 h
    else
    if ((sc v4.toNatClampNeg) &&& 63) = 26 then
      f_L_1098 sc n kb v4 h
    else
    if ((sc v4.toNatClampNeg) &&& 63) = 27 then
      f_L_1123 sc n kb v4 h
    else
    if ((sc v4.toNatClampNeg) &&& 63) = 28 then
      f_L_1148 sc n kb v4 h
    else
    if ((sc v4.toNatClampNeg) &&& 63) = 29 then
      f_L_1173 sc n kb v4 h
    else
    if ((sc v4.toNatClampNeg) &&& 63) = 30 then
      f_L_1222 sc n kb v4 h
    else
    if ((sc v4.toNatClampNeg) &&& 63) = 31 then
      f_L_1247 sc n kb v4 h
    else
    if ((sc v4.toNatClampNeg) &&& 63) = 32 then
      f_L_1328 sc n kb v4 h
    else
    if ((sc v4.toNatClampNeg) &&& 63) = 33 then
      f_L_1395 sc n kb v4 h
    else
    if ((sc v4.toNatClampNeg) &&& 63) = 34 then
      f_L_1468 sc n kb v4 h
    else
      kb (v4 + 6) h
    else none
  else
    some h
set_option maxRecDepth 20000 in
theorem sf_L_196 {G : mG} {X : mX} {b n k : Nat} {sc : Nat → Int32} {kb : Int32 → mH → Option mH} (hX : lwX G X b n sc (k + 1)) (hkb : lwK G X kb) (v4 : Int32) (h : mH) : lwS G X (f_L_196 sc n kb v4 h) 196 [(4, .inl v4), (3, .inr (.inr (98, 0))), (2, .inr (.inr (12, 0))), (1, .inr (.inr (11, 0))), (0, .inr (.inr (99, 0)))] h := by
  unfold f_L_196
  refine s_aload1 3 rfl dL_law_196 ?_
  refine s_aload0 4 rfl dL_law_197 ?_
  refine s_iload 0 rfl dL_law_198 ?_
  refine s_k1 dL_law_200 ?_
  refine s_iadd dL_law_201 ?_
  refine s_chk (fun q4 => ?_)
  refine s_sld hX q4 dL_law_202 ?_
  refine s_viI [.inl (sc (v4 + 1).toNatClampNeg)] (fun l b hb hl => cf_X11_begin G l (sc (v4 + 1).toNatClampNeg) h b hb hl) me_X11_begin vi_RL_21 rfl rfl rfl rfl rfl dL_law_203 (fun r5 => ?_)
  refine s_aload2 2 rfl dL_law_206 ?_
  refine s_aload0 4 rfl dL_law_207 ?_
  refine s_iload 0 rfl dL_law_208 ?_
  refine s_k1 dL_law_210 ?_
  refine s_iadd dL_law_211 ?_
  refine s_sld hX q4 dL_law_212 ?_
  refine s_viI [.inl (sc (v4 + 1).toNatClampNeg)] (fun l b hb hl => cf_X12_begin G l (sc (v4 + 1).toNatClampNeg) r5.2 b hb hl) me_X12_begin vi_RL_25 rfl rfl rfl rfl rfl dL_law_213 (fun r6 => ?_)
  refine s_ic_eq (tgt := 1493) dL_law_216 (by decide) (fun q7 => ?_) (fun q7 => ?_)
  · skip
    refine s_iincw 6 (by decide) 0 [(4, .inl (v4 + 6)), (3, .inr (.inr (98, 0))), (2, .inr (.inr (12, 0))), (1, .inr (.inr (11, 0))), (0, .inr (.inr (99, 0)))] rfl rfl rfl dL_law_1493 ?_
    refine s_goto (tgt := 23) dL_law_1496 (by decide) ?_
    exact s_loc [0, 1, 2, 3, 4] rfl (hkb _ (Or.inl rfl) (v4 + 6) r6.2)
  · skip
    refine s_k0 dL_law_219 ?_
    exact s_none
set_option maxRecDepth 20000 in
theorem sf_L_221 {G : mG} {X : mX} {b n k : Nat} {sc : Nat → Int32} {kb : Int32 → mH → Option mH} (hX : lwX G X b n sc (k + 1)) (hkb : lwK G X kb) (v4 : Int32) (h : mH) : lwS G X (f_L_221 sc n kb v4 h) 221 [(4, .inl v4), (3, .inr (.inr (98, 0))), (2, .inr (.inr (12, 0))), (1, .inr (.inr (11, 0))), (0, .inr (.inr (99, 0)))] h := by
  unfold f_L_221
  refine s_aload1 3 rfl dL_law_221 ?_
  refine s_aload0 4 rfl dL_law_222 ?_
  refine s_iload 0 rfl dL_law_223 ?_
  refine s_k1 dL_law_225 ?_
  refine s_iadd dL_law_226 ?_
  refine s_chk (fun q9 => ?_)
  refine s_sld hX q9 dL_law_227 ?_
  refine s_aload0 4 rfl dL_law_228 ?_
  refine s_iload 0 rfl dL_law_229 ?_
  refine s_k2 dL_law_231 ?_
  refine s_iadd dL_law_232 ?_
  refine s_chk (fun q10 => ?_)
  refine s_sld hX q10 dL_law_233 ?_
  refine s_aload0 4 rfl dL_law_234 ?_
  refine s_iload 0 rfl dL_law_235 ?_
  refine s_k3 dL_law_237 ?_
  refine s_iadd dL_law_238 ?_
  refine s_chk (fun q11 => ?_)
  refine s_sld hX q11 dL_law_239 ?_
  refine s_aload0 4 rfl dL_law_240 ?_
  refine s_iload 0 rfl dL_law_241 ?_
  refine s_k4 dL_law_243 ?_
  refine s_iadd dL_law_244 ?_
  refine s_chk (fun q12 => ?_)
  refine s_sld hX q12 dL_law_245 ?_
  refine s_aload0 4 rfl dL_law_246 ?_
  refine s_iload 0 rfl dL_law_247 ?_
  refine s_k5 dL_law_249 ?_
  refine s_iadd dL_law_250 ?_
  refine s_chk (fun q13 => ?_)
  refine s_sld hX q13 dL_law_251 ?_
  refine s_viI [.inl (sc (v4 + 1).toNatClampNeg), .inl (sc (v4 + 2).toNatClampNeg), .inl (sc (v4 + 3).toNatClampNeg), .inl (sc (v4 + 4).toNatClampNeg), .inl (sc (v4 + 5).toNatClampNeg)] (fun l b hb hl => cf_X11_field G l (sc (v4 + 1).toNatClampNeg) (sc (v4 + 2).toNatClampNeg) (sc (v4 + 3).toNatClampNeg) (sc (v4 + 4).toNatClampNeg) (sc (v4 + 5).toNatClampNeg) h b hb hl) me_X11_field vi_RL_26 rfl rfl rfl rfl rfl dL_law_252 (fun r14 => ?_)
  refine s_aload2 2 rfl dL_law_255 ?_
  refine s_aload0 4 rfl dL_law_256 ?_
  refine s_iload 0 rfl dL_law_257 ?_
  refine s_k1 dL_law_259 ?_
  refine s_iadd dL_law_260 ?_
  refine s_sld hX q9 dL_law_261 ?_
  refine s_aload0 4 rfl dL_law_262 ?_
  refine s_iload 0 rfl dL_law_263 ?_
  refine s_k2 dL_law_265 ?_
  refine s_iadd dL_law_266 ?_
  refine s_sld hX q10 dL_law_267 ?_
  refine s_aload0 4 rfl dL_law_268 ?_
  refine s_iload 0 rfl dL_law_269 ?_
  refine s_k3 dL_law_271 ?_
  refine s_iadd dL_law_272 ?_
  refine s_sld hX q11 dL_law_273 ?_
  refine s_aload0 4 rfl dL_law_274 ?_
  refine s_iload 0 rfl dL_law_275 ?_
  refine s_k4 dL_law_277 ?_
  refine s_iadd dL_law_278 ?_
  refine s_sld hX q12 dL_law_279 ?_
  refine s_aload0 4 rfl dL_law_280 ?_
  refine s_iload 0 rfl dL_law_281 ?_
  refine s_k5 dL_law_283 ?_
  refine s_iadd dL_law_284 ?_
  refine s_sld hX q13 dL_law_285 ?_
  refine s_viI [.inl (sc (v4 + 1).toNatClampNeg), .inl (sc (v4 + 2).toNatClampNeg), .inl (sc (v4 + 3).toNatClampNeg), .inl (sc (v4 + 4).toNatClampNeg), .inl (sc (v4 + 5).toNatClampNeg)] (fun l b hb hl => cf_X12_field G l (sc (v4 + 1).toNatClampNeg) (sc (v4 + 2).toNatClampNeg) (sc (v4 + 3).toNatClampNeg) (sc (v4 + 4).toNatClampNeg) (sc (v4 + 5).toNatClampNeg) r14.2 b hb hl) me_X12_field vi_RL_30 rfl rfl rfl rfl rfl dL_law_286 (fun r15 => ?_)
  refine s_ic_eq (tgt := 1493) dL_law_289 (by decide) (fun q16 => ?_) (fun q16 => ?_)
  · skip
    refine s_iincw 6 (by decide) 0 [(4, .inl (v4 + 6)), (3, .inr (.inr (98, 0))), (2, .inr (.inr (12, 0))), (1, .inr (.inr (11, 0))), (0, .inr (.inr (99, 0)))] rfl rfl rfl dL_law_1493 ?_
    refine s_goto (tgt := 23) dL_law_1496 (by decide) ?_
    exact s_loc [0, 1, 2, 3, 4] rfl (hkb _ (Or.inl rfl) (v4 + 6) r15.2)
  · skip
    refine s_k0 dL_law_292 ?_
    exact s_none
set_option maxRecDepth 20000 in
theorem sf_L_294 {G : mG} {X : mX} {b n k : Nat} {sc : Nat → Int32} {kb : Int32 → mH → Option mH} (hX : lwX G X b n sc (k + 1)) (hkb : lwK G X kb) (v4 : Int32) (h : mH) : lwS G X (f_L_294 sc n kb v4 h) 294 [(4, .inl v4), (3, .inr (.inr (98, 0))), (2, .inr (.inr (12, 0))), (1, .inr (.inr (11, 0))), (0, .inr (.inr (99, 0)))] h := by
  unfold f_L_294
  refine s_aload1 3 rfl dL_law_294 ?_
  refine s_aload0 4 rfl dL_law_295 ?_
  refine s_iload 0 rfl dL_law_296 ?_
  refine s_k1 dL_law_298 ?_
  refine s_iadd dL_law_299 ?_
  refine s_chk (fun q18 => ?_)
  refine s_sld hX q18 dL_law_300 ?_
  refine s_aload0 4 rfl dL_law_301 ?_
  refine s_iload 0 rfl dL_law_302 ?_
  refine s_k2 dL_law_304 ?_
  refine s_iadd dL_law_305 ?_
  refine s_chk (fun q19 => ?_)
  refine s_sld hX q19 dL_law_306 ?_
  refine s_viI [.inl (sc (v4 + 1).toNatClampNeg), .inl (sc (v4 + 2).toNatClampNeg)] (fun l b hb hl => cf_X11_period G l (sc (v4 + 1).toNatClampNeg) (sc (v4 + 2).toNatClampNeg) h b hb hl) me_X11_period vi_RL_31 rfl rfl rfl rfl rfl dL_law_307 (fun r20 => ?_)
  refine s_aload2 2 rfl dL_law_310 ?_
  refine s_aload0 4 rfl dL_law_311 ?_
  refine s_iload 0 rfl dL_law_312 ?_
  refine s_k1 dL_law_314 ?_
  refine s_iadd dL_law_315 ?_
  refine s_sld hX q18 dL_law_316 ?_
  refine s_aload0 4 rfl dL_law_317 ?_
  refine s_iload 0 rfl dL_law_318 ?_
  refine s_k2 dL_law_320 ?_
  refine s_iadd dL_law_321 ?_
  refine s_sld hX q19 dL_law_322 ?_
  refine s_viI [.inl (sc (v4 + 1).toNatClampNeg), .inl (sc (v4 + 2).toNatClampNeg)] (fun l b hb hl => cf_X12_period G l (sc (v4 + 1).toNatClampNeg) (sc (v4 + 2).toNatClampNeg) r20.2 b hb hl) me_X12_period vi_RL_35 rfl rfl rfl rfl rfl dL_law_323 (fun r21 => ?_)
  refine s_ic_eq (tgt := 1493) dL_law_326 (by decide) (fun q22 => ?_) (fun q22 => ?_)
  · skip
    refine s_iincw 6 (by decide) 0 [(4, .inl (v4 + 6)), (3, .inr (.inr (98, 0))), (2, .inr (.inr (12, 0))), (1, .inr (.inr (11, 0))), (0, .inr (.inr (99, 0)))] rfl rfl rfl dL_law_1493 ?_
    refine s_goto (tgt := 23) dL_law_1496 (by decide) ?_
    exact s_loc [0, 1, 2, 3, 4] rfl (hkb _ (Or.inl rfl) (v4 + 6) r21.2)
  · skip
    refine s_k0 dL_law_329 ?_
    exact s_none
set_option maxRecDepth 20000 in
theorem sf_L_331 {G : mG} {X : mX} {b n k : Nat} {sc : Nat → Int32} {kb : Int32 → mH → Option mH} (hX : lwX G X b n sc (k + 1)) (hkb : lwK G X kb) (v4 : Int32) (h : mH) : lwS G X (f_L_331 sc n kb v4 h) 331 [(4, .inl v4), (3, .inr (.inr (98, 0))), (2, .inr (.inr (12, 0))), (1, .inr (.inr (11, 0))), (0, .inr (.inr (99, 0)))] h := by
  unfold f_L_331
  refine s_aload1 3 rfl dL_law_331 ?_
  refine s_aload0 4 rfl dL_law_332 ?_
  refine s_iload 0 rfl dL_law_333 ?_
  refine s_k1 dL_law_335 ?_
  refine s_iadd dL_law_336 ?_
  refine s_chk (fun q24 => ?_)
  refine s_sld hX q24 dL_law_337 ?_
  refine s_aload0 4 rfl dL_law_338 ?_
  refine s_iload 0 rfl dL_law_339 ?_
  refine s_k2 dL_law_341 ?_
  refine s_iadd dL_law_342 ?_
  refine s_chk (fun q25 => ?_)
  refine s_sld hX q25 dL_law_343 ?_
  refine s_viI [.inl (sc (v4 + 1).toNatClampNeg), .inl (sc (v4 + 2).toNatClampNeg)] (fun l b hb hl => cf_X11_done G l (sc (v4 + 1).toNatClampNeg) (sc (v4 + 2).toNatClampNeg) h b hb hl) me_X11_done vi_RL_36 rfl rfl rfl rfl rfl dL_law_344 (fun r26 => ?_)
  refine s_aload2 2 rfl dL_law_347 ?_
  refine s_aload0 4 rfl dL_law_348 ?_
  refine s_iload 0 rfl dL_law_349 ?_
  refine s_k1 dL_law_351 ?_
  refine s_iadd dL_law_352 ?_
  refine s_sld hX q24 dL_law_353 ?_
  refine s_aload0 4 rfl dL_law_354 ?_
  refine s_iload 0 rfl dL_law_355 ?_
  refine s_k2 dL_law_357 ?_
  refine s_iadd dL_law_358 ?_
  refine s_sld hX q25 dL_law_359 ?_
  refine s_viI [.inl (sc (v4 + 1).toNatClampNeg), .inl (sc (v4 + 2).toNatClampNeg)] (fun l b hb hl => cf_X12_done G l (sc (v4 + 1).toNatClampNeg) (sc (v4 + 2).toNatClampNeg) r26.2 b hb hl) me_X12_done vi_RL_39 rfl rfl rfl rfl rfl dL_law_360 (fun r27 => ?_)
  refine s_ic_eq (tgt := 1493) dL_law_363 (by decide) (fun q28 => ?_) (fun q28 => ?_)
  · skip
    refine s_iincw 6 (by decide) 0 [(4, .inl (v4 + 6)), (3, .inr (.inr (98, 0))), (2, .inr (.inr (12, 0))), (1, .inr (.inr (11, 0))), (0, .inr (.inr (99, 0)))] rfl rfl rfl dL_law_1493 ?_
    refine s_goto (tgt := 23) dL_law_1496 (by decide) ?_
    exact s_loc [0, 1, 2, 3, 4] rfl (hkb _ (Or.inl rfl) (v4 + 6) r27.2)
  · skip
    refine s_k0 dL_law_366 ?_
    exact s_none
set_option maxRecDepth 20000 in
theorem sf_L_368 {G : mG} {X : mX} {b n k : Nat} {sc : Nat → Int32} {kb : Int32 → mH → Option mH} (hX : lwX G X b n sc (k + 1)) (hkb : lwK G X kb) (v4 : Int32) (h : mH) : lwS G X (f_L_368 sc n kb v4 h) 368 [(4, .inl v4), (3, .inr (.inr (98, 0))), (2, .inr (.inr (12, 0))), (1, .inr (.inr (11, 0))), (0, .inr (.inr (99, 0)))] h := by
  unfold f_L_368
  refine s_aload1 3 rfl dL_law_368 ?_
  refine s_aload0 4 rfl dL_law_369 ?_
  refine s_iload 0 rfl dL_law_370 ?_
  refine s_k1 dL_law_372 ?_
  refine s_iadd dL_law_373 ?_
  refine s_chk (fun q30 => ?_)
  refine s_sld hX q30 dL_law_374 ?_
  refine s_aload0 4 rfl dL_law_375 ?_
  refine s_iload 0 rfl dL_law_376 ?_
  refine s_k2 dL_law_378 ?_
  refine s_iadd dL_law_379 ?_
  refine s_chk (fun q31 => ?_)
  refine s_sld hX q31 dL_law_380 ?_
  refine s_aload0 4 rfl dL_law_381 ?_
  refine s_iload 0 rfl dL_law_382 ?_
  refine s_k3 dL_law_384 ?_
  refine s_iadd dL_law_385 ?_
  refine s_chk (fun q32 => ?_)
  refine s_sld hX q32 dL_law_386 ?_
  refine s_aload0 4 rfl dL_law_387 ?_
  refine s_iload 0 rfl dL_law_388 ?_
  refine s_k4 dL_law_390 ?_
  refine s_iadd dL_law_391 ?_
  refine s_chk (fun q33 => ?_)
  refine s_sld hX q33 dL_law_392 ?_
  refine s_viI [.inl (sc (v4 + 1).toNatClampNeg), .inl (sc (v4 + 2).toNatClampNeg), .inl (sc (v4 + 3).toNatClampNeg), .inl (sc (v4 + 4).toNatClampNeg)] (fun l b hb hl => cf_X11_law G l (sc (v4 + 1).toNatClampNeg) (sc (v4 + 2).toNatClampNeg) (sc (v4 + 3).toNatClampNeg) (sc (v4 + 4).toNatClampNeg) h b hb hl) me_X11_law vi_RL_40 rfl rfl rfl rfl rfl dL_law_393 (fun r34 => ?_)
  refine s_aload2 2 rfl dL_law_396 ?_
  refine s_aload0 4 rfl dL_law_397 ?_
  refine s_iload 0 rfl dL_law_398 ?_
  refine s_k1 dL_law_400 ?_
  refine s_iadd dL_law_401 ?_
  refine s_sld hX q30 dL_law_402 ?_
  refine s_aload0 4 rfl dL_law_403 ?_
  refine s_iload 0 rfl dL_law_404 ?_
  refine s_k2 dL_law_406 ?_
  refine s_iadd dL_law_407 ?_
  refine s_sld hX q31 dL_law_408 ?_
  refine s_aload0 4 rfl dL_law_409 ?_
  refine s_iload 0 rfl dL_law_410 ?_
  refine s_k3 dL_law_412 ?_
  refine s_iadd dL_law_413 ?_
  refine s_sld hX q32 dL_law_414 ?_
  refine s_aload0 4 rfl dL_law_415 ?_
  refine s_iload 0 rfl dL_law_416 ?_
  refine s_k4 dL_law_418 ?_
  refine s_iadd dL_law_419 ?_
  refine s_sld hX q33 dL_law_420 ?_
  refine s_viI [.inl (sc (v4 + 1).toNatClampNeg), .inl (sc (v4 + 2).toNatClampNeg), .inl (sc (v4 + 3).toNatClampNeg), .inl (sc (v4 + 4).toNatClampNeg)] (fun l b hb hl => cf_X12_law G l (sc (v4 + 1).toNatClampNeg) (sc (v4 + 2).toNatClampNeg) (sc (v4 + 3).toNatClampNeg) (sc (v4 + 4).toNatClampNeg) r34.2 b hb hl) me_X12_law vi_RL_44 rfl rfl rfl rfl rfl dL_law_421 (fun r35 => ?_)
  refine s_ic_eq (tgt := 1493) dL_law_424 (by decide) (fun q36 => ?_) (fun q36 => ?_)
  · skip
    refine s_iincw 6 (by decide) 0 [(4, .inl (v4 + 6)), (3, .inr (.inr (98, 0))), (2, .inr (.inr (12, 0))), (1, .inr (.inr (11, 0))), (0, .inr (.inr (99, 0)))] rfl rfl rfl dL_law_1493 ?_
    refine s_goto (tgt := 23) dL_law_1496 (by decide) ?_
    exact s_loc [0, 1, 2, 3, 4] rfl (hkb _ (Or.inl rfl) (v4 + 6) r35.2)
  · skip
    refine s_k0 dL_law_427 ?_
    exact s_none
set_option maxRecDepth 20000 in
theorem sf_L_429 {G : mG} {X : mX} {b n k : Nat} {sc : Nat → Int32} {kb : Int32 → mH → Option mH} (hX : lwX G X b n sc (k + 1)) (hkb : lwK G X kb) (v4 : Int32) (h : mH) : lwS G X (f_L_429 sc n kb v4 h) 429 [(4, .inl v4), (3, .inr (.inr (98, 0))), (2, .inr (.inr (12, 0))), (1, .inr (.inr (11, 0))), (0, .inr (.inr (99, 0)))] h := by
  unfold f_L_429
  refine s_aload1 3 rfl dL_law_429 ?_
  refine s_viI [] (fun l b hb hl => cf_X11_act G l  h b hb hl) me_X11_act vi_RL_45 rfl rfl rfl rfl rfl dL_law_430 (fun r38 => ?_)
  refine s_aload2 2 rfl dL_law_433 ?_
  refine s_viI [] (fun l b hb hl => cf_X12_act G l  r38.2 b hb hl) me_X12_act vi_RL_49 rfl rfl rfl rfl rfl dL_law_434 (fun r39 => ?_)
  refine s_ic_eq (tgt := 1493) dL_law_437 (by decide) (fun q40 => ?_) (fun q40 => ?_)
  · skip
    refine s_iincw 6 (by decide) 0 [(4, .inl (v4 + 6)), (3, .inr (.inr (98, 0))), (2, .inr (.inr (12, 0))), (1, .inr (.inr (11, 0))), (0, .inr (.inr (99, 0)))] rfl rfl rfl dL_law_1493 ?_
    refine s_goto (tgt := 23) dL_law_1496 (by decide) ?_
    exact s_loc [0, 1, 2, 3, 4] rfl (hkb _ (Or.inl rfl) (v4 + 6) r39.2)
  · skip
    refine s_k0 dL_law_440 ?_
    exact s_none
set_option maxRecDepth 20000 in
theorem sf_L_442 {G : mG} {X : mX} {b n k : Nat} {sc : Nat → Int32} {kb : Int32 → mH → Option mH} (hX : lwX G X b n sc (k + 1)) (hkb : lwK G X kb) (v4 : Int32) (h : mH) : lwS G X (f_L_442 sc n kb v4 h) 442 [(4, .inl v4), (3, .inr (.inr (98, 0))), (2, .inr (.inr (12, 0))), (1, .inr (.inr (11, 0))), (0, .inr (.inr (99, 0)))] h := by
  unfold f_L_442
  refine s_aload1 3 rfl dL_law_442 ?_
  refine s_aload0 4 rfl dL_law_443 ?_
  refine s_iload 0 rfl dL_law_444 ?_
  refine s_k1 dL_law_446 ?_
  refine s_iadd dL_law_447 ?_
  refine s_chk (fun q42 => ?_)
  refine s_sld hX q42 dL_law_448 ?_
  refine s_aload0 4 rfl dL_law_449 ?_
  refine s_iload 0 rfl dL_law_450 ?_
  refine s_k2 dL_law_452 ?_
  refine s_iadd dL_law_453 ?_
  refine s_chk (fun q43 => ?_)
  refine s_sld hX q43 dL_law_454 ?_
  refine s_aload0 4 rfl dL_law_455 ?_
  refine s_iload 0 rfl dL_law_456 ?_
  refine s_k3 dL_law_458 ?_
  refine s_iadd dL_law_459 ?_
  refine s_chk (fun q44 => ?_)
  refine s_sld hX q44 dL_law_460 ?_
  refine s_aload0 4 rfl dL_law_461 ?_
  refine s_iload 0 rfl dL_law_462 ?_
  refine s_k4 dL_law_464 ?_
  refine s_iadd dL_law_465 ?_
  refine s_chk (fun q45 => ?_)
  refine s_sld hX q45 dL_law_466 ?_
  refine s_aload0 4 rfl dL_law_467 ?_
  refine s_iload 0 rfl dL_law_468 ?_
  refine s_k5 dL_law_470 ?_
  refine s_iadd dL_law_471 ?_
  refine s_chk (fun q46 => ?_)
  refine s_sld hX q46 dL_law_472 ?_
  refine s_viI [.inl (sc (v4 + 1).toNatClampNeg), .inl (sc (v4 + 2).toNatClampNeg), .inl (sc (v4 + 3).toNatClampNeg), .inl (sc (v4 + 4).toNatClampNeg), .inl (sc (v4 + 5).toNatClampNeg)] (fun l b hb hl => cf_X11_step G l (sc (v4 + 1).toNatClampNeg) (sc (v4 + 2).toNatClampNeg) (sc (v4 + 3).toNatClampNeg) (sc (v4 + 4).toNatClampNeg) (sc (v4 + 5).toNatClampNeg) h b hb hl) me_X11_step vi_RL_50 rfl rfl rfl rfl rfl dL_law_473 (fun r47 => ?_)
  refine s_aload2 2 rfl dL_law_476 ?_
  refine s_aload0 4 rfl dL_law_477 ?_
  refine s_iload 0 rfl dL_law_478 ?_
  refine s_k1 dL_law_480 ?_
  refine s_iadd dL_law_481 ?_
  refine s_sld hX q42 dL_law_482 ?_
  refine s_aload0 4 rfl dL_law_483 ?_
  refine s_iload 0 rfl dL_law_484 ?_
  refine s_k2 dL_law_486 ?_
  refine s_iadd dL_law_487 ?_
  refine s_sld hX q43 dL_law_488 ?_
  refine s_aload0 4 rfl dL_law_489 ?_
  refine s_iload 0 rfl dL_law_490 ?_
  refine s_k3 dL_law_492 ?_
  refine s_iadd dL_law_493 ?_
  refine s_sld hX q44 dL_law_494 ?_
  refine s_aload0 4 rfl dL_law_495 ?_
  refine s_iload 0 rfl dL_law_496 ?_
  refine s_k4 dL_law_498 ?_
  refine s_iadd dL_law_499 ?_
  refine s_sld hX q45 dL_law_500 ?_
  refine s_aload0 4 rfl dL_law_501 ?_
  refine s_iload 0 rfl dL_law_502 ?_
  refine s_k5 dL_law_504 ?_
  refine s_iadd dL_law_505 ?_
  refine s_sld hX q46 dL_law_506 ?_
  refine s_viI [.inl (sc (v4 + 1).toNatClampNeg), .inl (sc (v4 + 2).toNatClampNeg), .inl (sc (v4 + 3).toNatClampNeg), .inl (sc (v4 + 4).toNatClampNeg), .inl (sc (v4 + 5).toNatClampNeg)] (fun l b hb hl => cf_X12_step G l (sc (v4 + 1).toNatClampNeg) (sc (v4 + 2).toNatClampNeg) (sc (v4 + 3).toNatClampNeg) (sc (v4 + 4).toNatClampNeg) (sc (v4 + 5).toNatClampNeg) r47.2 b hb hl) me_X12_step vi_RL_53 rfl rfl rfl rfl rfl dL_law_507 (fun r48 => ?_)
  refine s_ic_eq (tgt := 1493) dL_law_510 (by decide) (fun q49 => ?_) (fun q49 => ?_)
  · skip
    refine s_iincw 6 (by decide) 0 [(4, .inl (v4 + 6)), (3, .inr (.inr (98, 0))), (2, .inr (.inr (12, 0))), (1, .inr (.inr (11, 0))), (0, .inr (.inr (99, 0)))] rfl rfl rfl dL_law_1493 ?_
    refine s_goto (tgt := 23) dL_law_1496 (by decide) ?_
    exact s_loc [0, 1, 2, 3, 4] rfl (hkb _ (Or.inl rfl) (v4 + 6) r48.2)
  · skip
    refine s_k0 dL_law_513 ?_
    exact s_none
set_option maxRecDepth 20000 in
theorem sf_L_515 {G : mG} {X : mX} {b n k : Nat} {sc : Nat → Int32} {kb : Int32 → mH → Option mH} (hX : lwX G X b n sc (k + 1)) (hkb : lwK G X kb) (v4 : Int32) (h : mH) : lwS G X (f_L_515 sc n kb v4 h) 515 [(4, .inl v4), (3, .inr (.inr (98, 0))), (2, .inr (.inr (12, 0))), (1, .inr (.inr (11, 0))), (0, .inr (.inr (99, 0)))] h := by
  unfold f_L_515
  refine s_aload1 3 rfl dL_law_515 ?_
  refine s_aload0 4 rfl dL_law_516 ?_
  refine s_iload 0 rfl dL_law_517 ?_
  refine s_k1 dL_law_519 ?_
  refine s_iadd dL_law_520 ?_
  refine s_chk (fun q51 => ?_)
  refine s_sld hX q51 dL_law_521 ?_
  refine s_viI [.inl (sc (v4 + 1).toNatClampNeg)] (fun l b hb hl => cf_X11_bare G l (sc (v4 + 1).toNatClampNeg) h b hb hl) me_X11_bare vi_RL_54 rfl rfl rfl rfl rfl dL_law_522 (fun r52 => ?_)
  refine s_aload2 2 rfl dL_law_525 ?_
  refine s_aload0 4 rfl dL_law_526 ?_
  refine s_iload 0 rfl dL_law_527 ?_
  refine s_k1 dL_law_529 ?_
  refine s_iadd dL_law_530 ?_
  refine s_sld hX q51 dL_law_531 ?_
  refine s_viI [.inl (sc (v4 + 1).toNatClampNeg)] (fun l b hb hl => cf_X12_bare G l (sc (v4 + 1).toNatClampNeg) r52.2 b hb hl) me_X12_bare vi_RL_57 rfl rfl rfl rfl rfl dL_law_532 (fun r53 => ?_)
  refine s_ic_eq (tgt := 1493) dL_law_535 (by decide) (fun q54 => ?_) (fun q54 => ?_)
  · skip
    refine s_iincw 6 (by decide) 0 [(4, .inl (v4 + 6)), (3, .inr (.inr (98, 0))), (2, .inr (.inr (12, 0))), (1, .inr (.inr (11, 0))), (0, .inr (.inr (99, 0)))] rfl rfl rfl dL_law_1493 ?_
    refine s_goto (tgt := 23) dL_law_1496 (by decide) ?_
    exact s_loc [0, 1, 2, 3, 4] rfl (hkb _ (Or.inl rfl) (v4 + 6) r53.2)
  · skip
    refine s_k0 dL_law_538 ?_
    exact s_none
set_option maxRecDepth 20000 in
theorem sf_L_540 {G : mG} {X : mX} {b n k : Nat} {sc : Nat → Int32} {kb : Int32 → mH → Option mH} (hX : lwX G X b n sc (k + 1)) (hkb : lwK G X kb) (v4 : Int32) (h : mH) : lwS G X (f_L_540 sc n kb v4 h) 540 [(4, .inl v4), (3, .inr (.inr (98, 0))), (2, .inr (.inr (12, 0))), (1, .inr (.inr (11, 0))), (0, .inr (.inr (99, 0)))] h := by
  unfold f_L_540
  refine s_aload1 3 rfl dL_law_540 ?_
  refine s_aload0 4 rfl dL_law_541 ?_
  refine s_iload 0 rfl dL_law_542 ?_
  refine s_k1 dL_law_544 ?_
  refine s_iadd dL_law_545 ?_
  refine s_chk (fun q56 => ?_)
  refine s_sld hX q56 dL_law_546 ?_
  refine s_aload0 4 rfl dL_law_547 ?_
  refine s_iload 0 rfl dL_law_548 ?_
  refine s_k2 dL_law_550 ?_
  refine s_iadd dL_law_551 ?_
  refine s_chk (fun q57 => ?_)
  refine s_sld hX q57 dL_law_552 ?_
  refine s_viI [.inl (sc (v4 + 1).toNatClampNeg), .inl (sc (v4 + 2).toNatClampNeg)] (fun l b hb hl => cf_X11_handler G l (sc (v4 + 1).toNatClampNeg) (sc (v4 + 2).toNatClampNeg) h b hb hl) me_X11_handler vi_RL_58 rfl rfl rfl rfl rfl dL_law_553 (fun r58 => ?_)
  refine s_aload2 2 rfl dL_law_556 ?_
  refine s_aload0 4 rfl dL_law_557 ?_
  refine s_iload 0 rfl dL_law_558 ?_
  refine s_k1 dL_law_560 ?_
  refine s_iadd dL_law_561 ?_
  refine s_sld hX q56 dL_law_562 ?_
  refine s_aload0 4 rfl dL_law_563 ?_
  refine s_iload 0 rfl dL_law_564 ?_
  refine s_k2 dL_law_566 ?_
  refine s_iadd dL_law_567 ?_
  refine s_sld hX q57 dL_law_568 ?_
  refine s_viI [.inl (sc (v4 + 1).toNatClampNeg), .inl (sc (v4 + 2).toNatClampNeg)] (fun l b hb hl => cf_X12_handler G l (sc (v4 + 1).toNatClampNeg) (sc (v4 + 2).toNatClampNeg) r58.2 b hb hl) me_X12_handler vi_RL_61 rfl rfl rfl rfl rfl dL_law_569 (fun r59 => ?_)
  refine s_ic_eq (tgt := 1493) dL_law_572 (by decide) (fun q60 => ?_) (fun q60 => ?_)
  · skip
    refine s_iincw 6 (by decide) 0 [(4, .inl (v4 + 6)), (3, .inr (.inr (98, 0))), (2, .inr (.inr (12, 0))), (1, .inr (.inr (11, 0))), (0, .inr (.inr (99, 0)))] rfl rfl rfl dL_law_1493 ?_
    refine s_goto (tgt := 23) dL_law_1496 (by decide) ?_
    exact s_loc [0, 1, 2, 3, 4] rfl (hkb _ (Or.inl rfl) (v4 + 6) r59.2)
  · skip
    refine s_k0 dL_law_575 ?_
    exact s_none
set_option maxRecDepth 20000 in
theorem sf_L_577 {G : mG} {X : mX} {b n k : Nat} {sc : Nat → Int32} {kb : Int32 → mH → Option mH} (hX : lwX G X b n sc (k + 1)) (hkb : lwK G X kb) (v4 : Int32) (h : mH) : lwS G X (f_L_577 sc n kb v4 h) 577 [(4, .inl v4), (3, .inr (.inr (98, 0))), (2, .inr (.inr (12, 0))), (1, .inr (.inr (11, 0))), (0, .inr (.inr (99, 0)))] h := by
  unfold f_L_577
  refine s_aload1 3 rfl dL_law_577 ?_
  refine s_aload0 4 rfl dL_law_578 ?_
  refine s_iload 0 rfl dL_law_579 ?_
  refine s_k1 dL_law_581 ?_
  refine s_iadd dL_law_582 ?_
  refine s_chk (fun q62 => ?_)
  refine s_sld hX q62 dL_law_583 ?_
  refine s_viI [.inl (sc (v4 + 1).toNatClampNeg)] (fun l b hb hl => cf_X11_locks G l (sc (v4 + 1).toNatClampNeg) h b hb hl) me_X11_locks vi_RL_62 rfl rfl rfl rfl rfl dL_law_584 (fun r63 => ?_)
  refine s_aload2 2 rfl dL_law_587 ?_
  refine s_aload0 4 rfl dL_law_588 ?_
  refine s_iload 0 rfl dL_law_589 ?_
  refine s_k1 dL_law_591 ?_
  refine s_iadd dL_law_592 ?_
  refine s_sld hX q62 dL_law_593 ?_
  refine s_viI [.inl (sc (v4 + 1).toNatClampNeg)] (fun l b hb hl => cf_X12_locks G l (sc (v4 + 1).toNatClampNeg) r63.2 b hb hl) me_X12_locks vi_RL_65 rfl rfl rfl rfl rfl dL_law_594 (fun r64 => ?_)
  refine s_ic_eq (tgt := 1493) dL_law_597 (by decide) (fun q65 => ?_) (fun q65 => ?_)
  · skip
    refine s_iincw 6 (by decide) 0 [(4, .inl (v4 + 6)), (3, .inr (.inr (98, 0))), (2, .inr (.inr (12, 0))), (1, .inr (.inr (11, 0))), (0, .inr (.inr (99, 0)))] rfl rfl rfl dL_law_1493 ?_
    refine s_goto (tgt := 23) dL_law_1496 (by decide) ?_
    exact s_loc [0, 1, 2, 3, 4] rfl (hkb _ (Or.inl rfl) (v4 + 6) r64.2)
  · skip
    refine s_k0 dL_law_600 ?_
    exact s_none
set_option maxRecDepth 20000 in
theorem sf_L_602 {G : mG} {X : mX} {b n k : Nat} {sc : Nat → Int32} {kb : Int32 → mH → Option mH} (hX : lwX G X b n sc (k + 1)) (hkb : lwK G X kb) (v4 : Int32) (h : mH) : lwS G X (f_L_602 sc n kb v4 h) 602 [(4, .inl v4), (3, .inr (.inr (98, 0))), (2, .inr (.inr (12, 0))), (1, .inr (.inr (11, 0))), (0, .inr (.inr (99, 0)))] h := by
  unfold f_L_602
  refine s_aload1 3 rfl dL_law_602 ?_
  refine s_aload0 4 rfl dL_law_603 ?_
  refine s_iload 0 rfl dL_law_604 ?_
  refine s_k1 dL_law_606 ?_
  refine s_iadd dL_law_607 ?_
  refine s_chk (fun q67 => ?_)
  refine s_sld hX q67 dL_law_608 ?_
  refine s_viI [.inl (sc (v4 + 1).toNatClampNeg)] (fun l b hb hl => cf_X11_code G l (sc (v4 + 1).toNatClampNeg) h b hb hl) me_X11_code vi_RL_66 rfl rfl rfl rfl rfl dL_law_609 (fun r68 => ?_)
  refine s_aload2 2 rfl dL_law_612 ?_
  refine s_aload0 4 rfl dL_law_613 ?_
  refine s_iload 0 rfl dL_law_614 ?_
  refine s_k1 dL_law_616 ?_
  refine s_iadd dL_law_617 ?_
  refine s_sld hX q67 dL_law_618 ?_
  refine s_viI [.inl (sc (v4 + 1).toNatClampNeg)] (fun l b hb hl => cf_X12_code G l (sc (v4 + 1).toNatClampNeg) r68.2 b hb hl) me_X12_code vi_RL_69 rfl rfl rfl rfl rfl dL_law_619 (fun r69 => ?_)
  refine s_ic_eq (tgt := 1493) dL_law_622 (by decide) (fun q70 => ?_) (fun q70 => ?_)
  · skip
    refine s_iincw 6 (by decide) 0 [(4, .inl (v4 + 6)), (3, .inr (.inr (98, 0))), (2, .inr (.inr (12, 0))), (1, .inr (.inr (11, 0))), (0, .inr (.inr (99, 0)))] rfl rfl rfl dL_law_1493 ?_
    refine s_goto (tgt := 23) dL_law_1496 (by decide) ?_
    exact s_loc [0, 1, 2, 3, 4] rfl (hkb _ (Or.inl rfl) (v4 + 6) r69.2)
  · skip
    refine s_k0 dL_law_625 ?_
    exact s_none
set_option maxRecDepth 20000 in
theorem sf_L_627 {G : mG} {X : mX} {b n k : Nat} {sc : Nat → Int32} {kb : Int32 → mH → Option mH} (hX : lwX G X b n sc (k + 1)) (hkb : lwK G X kb) (v4 : Int32) (h : mH) : lwS G X (f_L_627 sc n kb v4 h) 627 [(4, .inl v4), (3, .inr (.inr (98, 0))), (2, .inr (.inr (12, 0))), (1, .inr (.inr (11, 0))), (0, .inr (.inr (99, 0)))] h := by
  unfold f_L_627
  refine s_aload1 3 rfl dL_law_627 ?_
  refine s_aload0 4 rfl dL_law_628 ?_
  refine s_iload 0 rfl dL_law_629 ?_
  refine s_k1 dL_law_631 ?_
  refine s_iadd dL_law_632 ?_
  refine s_chk (fun q72 => ?_)
  refine s_sld hX q72 dL_law_633 ?_
  refine s_aload0 4 rfl dL_law_634 ?_
  refine s_iload 0 rfl dL_law_635 ?_
  refine s_k2 dL_law_637 ?_
  refine s_iadd dL_law_638 ?_
  refine s_chk (fun q73 => ?_)
  refine s_sld hX q73 dL_law_639 ?_
  refine s_aload0 4 rfl dL_law_640 ?_
  refine s_iload 0 rfl dL_law_641 ?_
  refine s_k3 dL_law_643 ?_
  refine s_iadd dL_law_644 ?_
  refine s_chk (fun q74 => ?_)
  refine s_sld hX q74 dL_law_645 ?_
  refine s_viI [.inl (sc (v4 + 1).toNatClampNeg), .inl (sc (v4 + 2).toNatClampNeg), .inl (sc (v4 + 3).toNatClampNeg)] (fun l b hb hl => cf_X11_op G l (sc (v4 + 1).toNatClampNeg) (sc (v4 + 2).toNatClampNeg) (sc (v4 + 3).toNatClampNeg) h b hb hl) me_X11_op vi_RL_70 rfl rfl rfl rfl rfl dL_law_646 (fun r75 => ?_)
  refine s_aload2 2 rfl dL_law_649 ?_
  refine s_aload0 4 rfl dL_law_650 ?_
  refine s_iload 0 rfl dL_law_651 ?_
  refine s_k1 dL_law_653 ?_
  refine s_iadd dL_law_654 ?_
  refine s_sld hX q72 dL_law_655 ?_
  refine s_aload0 4 rfl dL_law_656 ?_
  refine s_iload 0 rfl dL_law_657 ?_
  refine s_k2 dL_law_659 ?_
  refine s_iadd dL_law_660 ?_
  refine s_sld hX q73 dL_law_661 ?_
  refine s_aload0 4 rfl dL_law_662 ?_
  refine s_iload 0 rfl dL_law_663 ?_
  refine s_k3 dL_law_665 ?_
  refine s_iadd dL_law_666 ?_
  refine s_sld hX q74 dL_law_667 ?_
  refine s_viI [.inl (sc (v4 + 1).toNatClampNeg), .inl (sc (v4 + 2).toNatClampNeg), .inl (sc (v4 + 3).toNatClampNeg)] (fun l b hb hl => cf_X12_op G l (sc (v4 + 1).toNatClampNeg) (sc (v4 + 2).toNatClampNeg) (sc (v4 + 3).toNatClampNeg) r75.2 b hb hl) me_X12_op vi_RL_74 rfl rfl rfl rfl rfl dL_law_668 (fun r76 => ?_)
  refine s_ic_eq (tgt := 1493) dL_law_671 (by decide) (fun q77 => ?_) (fun q77 => ?_)
  · skip
    refine s_iincw 6 (by decide) 0 [(4, .inl (v4 + 6)), (3, .inr (.inr (98, 0))), (2, .inr (.inr (12, 0))), (1, .inr (.inr (11, 0))), (0, .inr (.inr (99, 0)))] rfl rfl rfl dL_law_1493 ?_
    refine s_goto (tgt := 23) dL_law_1496 (by decide) ?_
    exact s_loc [0, 1, 2, 3, 4] rfl (hkb _ (Or.inl rfl) (v4 + 6) r76.2)
  · skip
    refine s_k0 dL_law_674 ?_
    exact s_none
set_option maxRecDepth 20000 in
theorem sf_L_676 {G : mG} {X : mX} {b n k : Nat} {sc : Nat → Int32} {kb : Int32 → mH → Option mH} (hX : lwX G X b n sc (k + 1)) (hkb : lwK G X kb) (v4 : Int32) (h : mH) : lwS G X (f_L_676 sc n kb v4 h) 676 [(4, .inl v4), (3, .inr (.inr (98, 0))), (2, .inr (.inr (12, 0))), (1, .inr (.inr (11, 0))), (0, .inr (.inr (99, 0)))] h := by
  unfold f_L_676
  refine s_aload1 3 rfl dL_law_676 ?_
  refine s_aload0 4 rfl dL_law_677 ?_
  refine s_iload 0 rfl dL_law_678 ?_
  refine s_k1 dL_law_680 ?_
  refine s_iadd dL_law_681 ?_
  refine s_chk (fun q79 => ?_)
  refine s_sld hX q79 dL_law_682 ?_
  refine s_aload0 4 rfl dL_law_683 ?_
  refine s_iload 0 rfl dL_law_684 ?_
  refine s_k2 dL_law_686 ?_
  refine s_iadd dL_law_687 ?_
  refine s_chk (fun q80 => ?_)
  refine s_sld hX q80 dL_law_688 ?_
  refine s_viI [.inl (sc (v4 + 1).toNatClampNeg), .inl (sc (v4 + 2).toNatClampNeg)] (fun l b hb hl => cf_X11_same G l (sc (v4 + 1).toNatClampNeg) (sc (v4 + 2).toNatClampNeg) h b hb hl) me_X11_same vi_RL_75 rfl rfl rfl rfl rfl dL_law_689 (fun r81 => ?_)
  refine s_aload2 2 rfl dL_law_692 ?_
  refine s_aload0 4 rfl dL_law_693 ?_
  refine s_iload 0 rfl dL_law_694 ?_
  refine s_k1 dL_law_696 ?_
  refine s_iadd dL_law_697 ?_
  refine s_sld hX q79 dL_law_698 ?_
  refine s_aload0 4 rfl dL_law_699 ?_
  refine s_iload 0 rfl dL_law_700 ?_
  refine s_k2 dL_law_702 ?_
  refine s_iadd dL_law_703 ?_
  refine s_sld hX q80 dL_law_704 ?_
  refine s_viI [.inl (sc (v4 + 1).toNatClampNeg), .inl (sc (v4 + 2).toNatClampNeg)] (fun l b hb hl => cf_X12_same G l (sc (v4 + 1).toNatClampNeg) (sc (v4 + 2).toNatClampNeg) r81.2 b hb hl) me_X12_same vi_RL_78 rfl rfl rfl rfl rfl dL_law_705 (fun r82 => ?_)
  refine s_ic_eq (tgt := 1493) dL_law_708 (by decide) (fun q83 => ?_) (fun q83 => ?_)
  · skip
    refine s_iincw 6 (by decide) 0 [(4, .inl (v4 + 6)), (3, .inr (.inr (98, 0))), (2, .inr (.inr (12, 0))), (1, .inr (.inr (11, 0))), (0, .inr (.inr (99, 0)))] rfl rfl rfl dL_law_1493 ?_
    refine s_goto (tgt := 23) dL_law_1496 (by decide) ?_
    exact s_loc [0, 1, 2, 3, 4] rfl (hkb _ (Or.inl rfl) (v4 + 6) r82.2)
  · skip
    refine s_k0 dL_law_711 ?_
    exact s_none
set_option maxRecDepth 20000 in
theorem sf_L_713 {G : mG} {X : mX} {b n k : Nat} {sc : Nat → Int32} {kb : Int32 → mH → Option mH} (hX : lwX G X b n sc (k + 1)) (hkb : lwK G X kb) (v4 : Int32) (h : mH) : lwS G X (f_L_713 sc n kb v4 h) 713 [(4, .inl v4), (3, .inr (.inr (98, 0))), (2, .inr (.inr (12, 0))), (1, .inr (.inr (11, 0))), (0, .inr (.inr (99, 0)))] h := by
  unfold f_L_713
  refine s_aload1 3 rfl dL_law_713 ?_
  refine s_viI [] (fun l b hb hl => cf_X11_power G l  h b hb hl) me_X11_power vi_RL_79 rfl rfl rfl rfl rfl dL_law_714 (fun r85 => ?_)
  refine s_aload2 2 rfl dL_law_717 ?_
  refine s_viI [] (fun l b hb hl => cf_X12_power G l  r85.2 b hb hl) me_X12_power vi_RL_82 rfl rfl rfl rfl rfl dL_law_718 (fun r86 => ?_)
  refine s_ic_eq (tgt := 1493) dL_law_721 (by decide) (fun q87 => ?_) (fun q87 => ?_)
  · skip
    refine s_iincw 6 (by decide) 0 [(4, .inl (v4 + 6)), (3, .inr (.inr (98, 0))), (2, .inr (.inr (12, 0))), (1, .inr (.inr (11, 0))), (0, .inr (.inr (99, 0)))] rfl rfl rfl dL_law_1493 ?_
    refine s_goto (tgt := 23) dL_law_1496 (by decide) ?_
    exact s_loc [0, 1, 2, 3, 4] rfl (hkb _ (Or.inl rfl) (v4 + 6) r86.2)
  · skip
    refine s_k0 dL_law_724 ?_
    exact s_none
set_option maxRecDepth 20000 in
theorem sf_L_726 {G : mG} {X : mX} {b n k : Nat} {sc : Nat → Int32} {kb : Int32 → mH → Option mH} (hX : lwX G X b n sc (k + 1)) (hkb : lwK G X kb) (v4 : Int32) (h : mH) : lwS G X (f_L_726 sc n kb v4 h) 726 [(4, .inl v4), (3, .inr (.inr (98, 0))), (2, .inr (.inr (12, 0))), (1, .inr (.inr (11, 0))), (0, .inr (.inr (99, 0)))] h := by
  unfold f_L_726
  refine s_aload1 3 rfl dL_law_726 ?_
  refine s_aload0 4 rfl dL_law_727 ?_
  refine s_iload 0 rfl dL_law_728 ?_
  refine s_k1 dL_law_730 ?_
  refine s_iadd dL_law_731 ?_
  refine s_chk (fun q89 => ?_)
  refine s_sld hX q89 dL_law_732 ?_
  refine s_aload0 4 rfl dL_law_733 ?_
  refine s_iload 0 rfl dL_law_734 ?_
  refine s_k2 dL_law_736 ?_
  refine s_iadd dL_law_737 ?_
  refine s_chk (fun q90 => ?_)
  refine s_sld hX q90 dL_law_738 ?_
  refine s_aload0 4 rfl dL_law_739 ?_
  refine s_iload 0 rfl dL_law_740 ?_
  refine s_k3 dL_law_742 ?_
  refine s_iadd dL_law_743 ?_
  refine s_chk (fun q91 => ?_)
  refine s_sld hX q91 dL_law_744 ?_
  refine s_viI [.inl (sc (v4 + 1).toNatClampNeg), .inl (sc (v4 + 2).toNatClampNeg), .inl (sc (v4 + 3).toNatClampNeg)] (fun l b hb hl => cf_X11_event G l (sc (v4 + 1).toNatClampNeg) (sc (v4 + 2).toNatClampNeg) (sc (v4 + 3).toNatClampNeg) h b hb hl) me_X11_event vi_RL_83 rfl rfl rfl rfl rfl dL_law_745 (fun r92 => ?_)
  refine s_aload2 2 rfl dL_law_748 ?_
  refine s_aload0 4 rfl dL_law_749 ?_
  refine s_iload 0 rfl dL_law_750 ?_
  refine s_k1 dL_law_752 ?_
  refine s_iadd dL_law_753 ?_
  refine s_sld hX q89 dL_law_754 ?_
  refine s_aload0 4 rfl dL_law_755 ?_
  refine s_iload 0 rfl dL_law_756 ?_
  refine s_k2 dL_law_758 ?_
  refine s_iadd dL_law_759 ?_
  refine s_sld hX q90 dL_law_760 ?_
  refine s_aload0 4 rfl dL_law_761 ?_
  refine s_iload 0 rfl dL_law_762 ?_
  refine s_k3 dL_law_764 ?_
  refine s_iadd dL_law_765 ?_
  refine s_sld hX q91 dL_law_766 ?_
  refine s_viI [.inl (sc (v4 + 1).toNatClampNeg), .inl (sc (v4 + 2).toNatClampNeg), .inl (sc (v4 + 3).toNatClampNeg)] (fun l b hb hl => cf_X12_event G l (sc (v4 + 1).toNatClampNeg) (sc (v4 + 2).toNatClampNeg) (sc (v4 + 3).toNatClampNeg) r92.2 b hb hl) me_X12_event vi_RL_86 rfl rfl rfl rfl rfl dL_law_767 (fun r93 => ?_)
  refine s_ic_eq (tgt := 1493) dL_law_770 (by decide) (fun q94 => ?_) (fun q94 => ?_)
  · skip
    refine s_iincw 6 (by decide) 0 [(4, .inl (v4 + 6)), (3, .inr (.inr (98, 0))), (2, .inr (.inr (12, 0))), (1, .inr (.inr (11, 0))), (0, .inr (.inr (99, 0)))] rfl rfl rfl dL_law_1493 ?_
    refine s_goto (tgt := 23) dL_law_1496 (by decide) ?_
    exact s_loc [0, 1, 2, 3, 4] rfl (hkb _ (Or.inl rfl) (v4 + 6) r93.2)
  · skip
    refine s_k0 dL_law_773 ?_
    exact s_none
set_option maxRecDepth 20000 in
theorem sf_L_775 {G : mG} {X : mX} {b n k : Nat} {sc : Nat → Int32} {kb : Int32 → mH → Option mH} (hX : lwX G X b n sc (k + 1)) (hkb : lwK G X kb) (v4 : Int32) (h : mH) : lwS G X (f_L_775 sc n kb v4 h) 775 [(4, .inl v4), (3, .inr (.inr (98, 0))), (2, .inr (.inr (12, 0))), (1, .inr (.inr (11, 0))), (0, .inr (.inr (99, 0)))] h := by
  unfold f_L_775
  refine s_aload1 3 rfl dL_law_775 ?_
  refine s_aload0 4 rfl dL_law_776 ?_
  refine s_iload 0 rfl dL_law_777 ?_
  refine s_k1 dL_law_779 ?_
  refine s_iadd dL_law_780 ?_
  refine s_chk (fun q96 => ?_)
  refine s_sld hX q96 dL_law_781 ?_
  refine s_viI [.inl (sc (v4 + 1).toNatClampNeg)] (fun l b hb hl => cf_X11_run G l (sc (v4 + 1).toNatClampNeg) h b hb hl) me_X11_run vi_RL_87 rfl rfl rfl rfl rfl dL_law_782 (fun r97 => ?_)
  refine s_aload2 2 rfl dL_law_785 ?_
  refine s_aload0 4 rfl dL_law_786 ?_
  refine s_iload 0 rfl dL_law_787 ?_
  refine s_k1 dL_law_789 ?_
  refine s_iadd dL_law_790 ?_
  refine s_sld hX q96 dL_law_791 ?_
  refine s_viI [.inl (sc (v4 + 1).toNatClampNeg)] (fun l b hb hl => cf_X12_run G l (sc (v4 + 1).toNatClampNeg) r97.2 b hb hl) me_X12_run vi_RL_90 rfl rfl rfl rfl rfl dL_law_792 (fun r98 => ?_)
  refine s_ic_eq (tgt := 1493) dL_law_795 (by decide) (fun q99 => ?_) (fun q99 => ?_)
  · skip
    refine s_iincw 6 (by decide) 0 [(4, .inl (v4 + 6)), (3, .inr (.inr (98, 0))), (2, .inr (.inr (12, 0))), (1, .inr (.inr (11, 0))), (0, .inr (.inr (99, 0)))] rfl rfl rfl dL_law_1493 ?_
    refine s_goto (tgt := 23) dL_law_1496 (by decide) ?_
    exact s_loc [0, 1, 2, 3, 4] rfl (hkb _ (Or.inl rfl) (v4 + 6) r98.2)
  · skip
    refine s_k0 dL_law_798 ?_
    exact s_none
set_option maxRecDepth 20000 in
theorem sf_L_800 {G : mG} {X : mX} {b n k : Nat} {sc : Nat → Int32} {kb : Int32 → mH → Option mH} (hX : lwX G X b n sc (k + 1)) (hkb : lwK G X kb) (v4 : Int32) (h : mH) : lwS G X (f_L_800 sc n kb v4 h) 800 [(4, .inl v4), (3, .inr (.inr (98, 0))), (2, .inr (.inr (12, 0))), (1, .inr (.inr (11, 0))), (0, .inr (.inr (99, 0)))] h := by
  unfold f_L_800
  refine s_aload1 3 rfl dL_law_800 ?_
  refine s_aload0 4 rfl dL_law_801 ?_
  refine s_iload 0 rfl dL_law_802 ?_
  refine s_k1 dL_law_804 ?_
  refine s_iadd dL_law_805 ?_
  refine s_chk (fun q101 => ?_)
  refine s_sld hX q101 dL_law_806 ?_
  refine s_viI [.inl (sc (v4 + 1).toNatClampNeg)] (fun l b hb hl => cf_X11_read G l (sc (v4 + 1).toNatClampNeg) h b hb hl) me_X11_read vi_RL_91 rfl rfl rfl rfl rfl dL_law_807 (fun r102 => ?_)
  refine s_aload2 2 rfl dL_law_810 ?_
  refine s_aload0 4 rfl dL_law_811 ?_
  refine s_iload 0 rfl dL_law_812 ?_
  refine s_k1 dL_law_814 ?_
  refine s_iadd dL_law_815 ?_
  refine s_sld hX q101 dL_law_816 ?_
  refine s_viI [.inl (sc (v4 + 1).toNatClampNeg)] (fun l b hb hl => cf_X12_read G l (sc (v4 + 1).toNatClampNeg) r102.2 b hb hl) me_X12_read vi_RL_94 rfl rfl rfl rfl rfl dL_law_817 (fun r103 => ?_)
  refine s_ic_eq (tgt := 1493) dL_law_820 (by decide) (fun q104 => ?_) (fun q104 => ?_)
  · skip
    refine s_iincw 6 (by decide) 0 [(4, .inl (v4 + 6)), (3, .inr (.inr (98, 0))), (2, .inr (.inr (12, 0))), (1, .inr (.inr (11, 0))), (0, .inr (.inr (99, 0)))] rfl rfl rfl dL_law_1493 ?_
    refine s_goto (tgt := 23) dL_law_1496 (by decide) ?_
    exact s_loc [0, 1, 2, 3, 4] rfl (hkb _ (Or.inl rfl) (v4 + 6) r103.2)
  · skip
    refine s_k0 dL_law_823 ?_
    exact s_none
set_option maxRecDepth 20000 in
theorem sf_L_825 {G : mG} {X : mX} {b n k : Nat} {sc : Nat → Int32} {kb : Int32 → mH → Option mH} (hX : lwX G X b n sc (k + 1)) (hkb : lwK G X kb) (v4 : Int32) (h : mH) : lwS G X (f_L_825 sc n kb v4 h) 825 [(4, .inl v4), (3, .inr (.inr (98, 0))), (2, .inr (.inr (12, 0))), (1, .inr (.inr (11, 0))), (0, .inr (.inr (99, 0)))] h := by
  unfold f_L_825
  refine s_aload1 3 rfl dL_law_825 ?_
  refine s_aload0 4 rfl dL_law_826 ?_
  refine s_iload 0 rfl dL_law_827 ?_
  refine s_k1 dL_law_829 ?_
  refine s_iadd dL_law_830 ?_
  refine s_chk (fun q106 => ?_)
  refine s_sld hX q106 dL_law_831 ?_
  refine s_aload0 4 rfl dL_law_832 ?_
  refine s_iload 0 rfl dL_law_833 ?_
  refine s_k2 dL_law_835 ?_
  refine s_iadd dL_law_836 ?_
  refine s_chk (fun q107 => ?_)
  refine s_sld hX q107 dL_law_837 ?_
  refine s_viI [.inl (sc (v4 + 1).toNatClampNeg), .inl (sc (v4 + 2).toNatClampNeg)] (fun l b hb hl => cf_X11_write G l (sc (v4 + 1).toNatClampNeg) (sc (v4 + 2).toNatClampNeg) h b hb hl) me_X11_write vi_RL_95 rfl rfl rfl rfl rfl dL_law_838 (fun r108 => ?_)
  refine s_aload2 2 rfl dL_law_841 ?_
  refine s_aload0 4 rfl dL_law_842 ?_
  refine s_iload 0 rfl dL_law_843 ?_
  refine s_k1 dL_law_845 ?_
  refine s_iadd dL_law_846 ?_
  refine s_sld hX q106 dL_law_847 ?_
  refine s_aload0 4 rfl dL_law_848 ?_
  refine s_iload 0 rfl dL_law_849 ?_
  refine s_k2 dL_law_851 ?_
  refine s_iadd dL_law_852 ?_
  refine s_sld hX q107 dL_law_853 ?_
  refine s_viI [.inl (sc (v4 + 1).toNatClampNeg), .inl (sc (v4 + 2).toNatClampNeg)] (fun l b hb hl => cf_X12_write G l (sc (v4 + 1).toNatClampNeg) (sc (v4 + 2).toNatClampNeg) r108.2 b hb hl) me_X12_write vi_RL_98 rfl rfl rfl rfl rfl dL_law_854 (fun r109 => ?_)
  refine s_ic_eq (tgt := 1493) dL_law_857 (by decide) (fun q110 => ?_) (fun q110 => ?_)
  · skip
    refine s_iincw 6 (by decide) 0 [(4, .inl (v4 + 6)), (3, .inr (.inr (98, 0))), (2, .inr (.inr (12, 0))), (1, .inr (.inr (11, 0))), (0, .inr (.inr (99, 0)))] rfl rfl rfl dL_law_1493 ?_
    refine s_goto (tgt := 23) dL_law_1496 (by decide) ?_
    exact s_loc [0, 1, 2, 3, 4] rfl (hkb _ (Or.inl rfl) (v4 + 6) r109.2)
  · skip
    refine s_k0 dL_law_860 ?_
    exact s_none
set_option maxRecDepth 20000 in
theorem sf_L_862 {G : mG} {X : mX} {b n k : Nat} {sc : Nat → Int32} {kb : Int32 → mH → Option mH} (hX : lwX G X b n sc (k + 1)) (hkb : lwK G X kb) (v4 : Int32) (h : mH) : lwS G X (f_L_862 sc n kb v4 h) 862 [(4, .inl v4), (3, .inr (.inr (98, 0))), (2, .inr (.inr (12, 0))), (1, .inr (.inr (11, 0))), (0, .inr (.inr (99, 0)))] h := by
  unfold f_L_862
  refine s_aload1 3 rfl dL_law_862 ?_
  refine s_aload0 4 rfl dL_law_863 ?_
  refine s_iload 0 rfl dL_law_864 ?_
  refine s_k1 dL_law_866 ?_
  refine s_iadd dL_law_867 ?_
  refine s_chk (fun q112 => ?_)
  refine s_sld hX q112 dL_law_868 ?_
  refine s_viI [.inl (sc (v4 + 1).toNatClampNeg)] (fun l b hb hl => cf_X11_wait G l (sc (v4 + 1).toNatClampNeg) h b hb hl) me_X11_wait vi_RL_99 rfl rfl rfl rfl rfl dL_law_869 (fun r113 => ?_)
  refine s_aload2 2 rfl dL_law_872 ?_
  refine s_aload0 4 rfl dL_law_873 ?_
  refine s_iload 0 rfl dL_law_874 ?_
  refine s_k1 dL_law_876 ?_
  refine s_iadd dL_law_877 ?_
  refine s_sld hX q112 dL_law_878 ?_
  refine s_viI [.inl (sc (v4 + 1).toNatClampNeg)] (fun l b hb hl => cf_X12_wait G l (sc (v4 + 1).toNatClampNeg) r113.2 b hb hl) me_X12_wait vi_RL_102 rfl rfl rfl rfl rfl dL_law_879 (fun r114 => ?_)
  refine s_ic_eq (tgt := 1493) dL_law_882 (by decide) (fun q115 => ?_) (fun q115 => ?_)
  · skip
    refine s_iincw 6 (by decide) 0 [(4, .inl (v4 + 6)), (3, .inr (.inr (98, 0))), (2, .inr (.inr (12, 0))), (1, .inr (.inr (11, 0))), (0, .inr (.inr (99, 0)))] rfl rfl rfl dL_law_1493 ?_
    refine s_goto (tgt := 23) dL_law_1496 (by decide) ?_
    exact s_loc [0, 1, 2, 3, 4] rfl (hkb _ (Or.inl rfl) (v4 + 6) r114.2)
  · skip
    refine s_k0 dL_law_885 ?_
    exact s_none
set_option maxRecDepth 20000 in
theorem sf_L_887 {G : mG} {X : mX} {b n k : Nat} {sc : Nat → Int32} {kb : Int32 → mH → Option mH} (hX : lwX G X b n sc (k + 1)) (hkb : lwK G X kb) (v4 : Int32) (h : mH) : lwS G X (f_L_887 sc n kb v4 h) 887 [(4, .inl v4), (3, .inr (.inr (98, 0))), (2, .inr (.inr (12, 0))), (1, .inr (.inr (11, 0))), (0, .inr (.inr (99, 0)))] h := by
  unfold f_L_887
  refine s_aload1 3 rfl dL_law_887 ?_
  refine s_aload0 4 rfl dL_law_888 ?_
  refine s_iload 0 rfl dL_law_889 ?_
  refine s_k1 dL_law_891 ?_
  refine s_iadd dL_law_892 ?_
  refine s_chk (fun q117 => ?_)
  refine s_sld hX q117 dL_law_893 ?_
  refine s_aload0 4 rfl dL_law_894 ?_
  refine s_iload 0 rfl dL_law_895 ?_
  refine s_k2 dL_law_897 ?_
  refine s_iadd dL_law_898 ?_
  refine s_chk (fun q118 => ?_)
  refine s_sld hX q118 dL_law_899 ?_
  refine s_viI [.inl (sc (v4 + 1).toNatClampNeg), .inl (sc (v4 + 2).toNatClampNeg)] (fun l b hb hl => cf_X11_peek G l (sc (v4 + 1).toNatClampNeg) (sc (v4 + 2).toNatClampNeg) h b hb hl) me_X11_peek vi_RL_103 rfl rfl rfl rfl rfl dL_law_900 (fun r119 => ?_)
  refine s_aload2 2 rfl dL_law_903 ?_
  refine s_aload0 4 rfl dL_law_904 ?_
  refine s_iload 0 rfl dL_law_905 ?_
  refine s_k1 dL_law_907 ?_
  refine s_iadd dL_law_908 ?_
  refine s_sld hX q117 dL_law_909 ?_
  refine s_aload0 4 rfl dL_law_910 ?_
  refine s_iload 0 rfl dL_law_911 ?_
  refine s_k2 dL_law_913 ?_
  refine s_iadd dL_law_914 ?_
  refine s_sld hX q118 dL_law_915 ?_
  refine s_viI [.inl (sc (v4 + 1).toNatClampNeg), .inl (sc (v4 + 2).toNatClampNeg)] (fun l b hb hl => cf_X12_peek G l (sc (v4 + 1).toNatClampNeg) (sc (v4 + 2).toNatClampNeg) r119.2 b hb hl) me_X12_peek vi_RL_106 rfl rfl rfl rfl rfl dL_law_916 (fun r120 => ?_)
  refine s_ic_eq (tgt := 1493) dL_law_919 (by decide) (fun q121 => ?_) (fun q121 => ?_)
  · skip
    refine s_iincw 6 (by decide) 0 [(4, .inl (v4 + 6)), (3, .inr (.inr (98, 0))), (2, .inr (.inr (12, 0))), (1, .inr (.inr (11, 0))), (0, .inr (.inr (99, 0)))] rfl rfl rfl dL_law_1493 ?_
    refine s_goto (tgt := 23) dL_law_1496 (by decide) ?_
    exact s_loc [0, 1, 2, 3, 4] rfl (hkb _ (Or.inl rfl) (v4 + 6) r120.2)
  · skip
    refine s_k0 dL_law_922 ?_
    exact s_none
set_option maxRecDepth 20000 in
theorem sf_L_924 {G : mG} {X : mX} {b n k : Nat} {sc : Nat → Int32} {kb : Int32 → mH → Option mH} (hX : lwX G X b n sc (k + 1)) (hkb : lwK G X kb) (v4 : Int32) (h : mH) : lwS G X (f_L_924 sc n kb v4 h) 924 [(4, .inl v4), (3, .inr (.inr (98, 0))), (2, .inr (.inr (12, 0))), (1, .inr (.inr (11, 0))), (0, .inr (.inr (99, 0)))] h := by
  unfold f_L_924
  refine s_aload1 3 rfl dL_law_924 ?_
  refine s_aload0 4 rfl dL_law_925 ?_
  refine s_iload 0 rfl dL_law_926 ?_
  refine s_k1 dL_law_928 ?_
  refine s_iadd dL_law_929 ?_
  refine s_chk (fun q123 => ?_)
  refine s_sld hX q123 dL_law_930 ?_
  refine s_viI [.inl (sc (v4 + 1).toNatClampNeg)] (fun l b hb hl => cf_X11_shadow G l (sc (v4 + 1).toNatClampNeg) h b hb hl) me_X11_shadow vi_RL_107 rfl rfl rfl rfl rfl dL_law_931 (fun r124 => ?_)
  refine s_aload2 2 rfl dL_law_934 ?_
  refine s_aload0 4 rfl dL_law_935 ?_
  refine s_iload 0 rfl dL_law_936 ?_
  refine s_k1 dL_law_938 ?_
  refine s_iadd dL_law_939 ?_
  refine s_sld hX q123 dL_law_940 ?_
  refine s_viI [.inl (sc (v4 + 1).toNatClampNeg)] (fun l b hb hl => cf_X12_shadow G l (sc (v4 + 1).toNatClampNeg) r124.2 b hb hl) me_X12_shadow vi_RL_110 rfl rfl rfl rfl rfl dL_law_941 (fun r125 => ?_)
  refine s_ic_eq (tgt := 1493) dL_law_944 (by decide) (fun q126 => ?_) (fun q126 => ?_)
  · skip
    refine s_iincw 6 (by decide) 0 [(4, .inl (v4 + 6)), (3, .inr (.inr (98, 0))), (2, .inr (.inr (12, 0))), (1, .inr (.inr (11, 0))), (0, .inr (.inr (99, 0)))] rfl rfl rfl dL_law_1493 ?_
    refine s_goto (tgt := 23) dL_law_1496 (by decide) ?_
    exact s_loc [0, 1, 2, 3, 4] rfl (hkb _ (Or.inl rfl) (v4 + 6) r125.2)
  · skip
    refine s_k0 dL_law_947 ?_
    exact s_none
set_option maxRecDepth 20000 in
theorem sf_L_949 {G : mG} {X : mX} {b n k : Nat} {sc : Nat → Int32} {kb : Int32 → mH → Option mH} (hX : lwX G X b n sc (k + 1)) (hkb : lwK G X kb) (v4 : Int32) (h : mH) : lwS G X (f_L_949 sc n kb v4 h) 949 [(4, .inl v4), (3, .inr (.inr (98, 0))), (2, .inr (.inr (12, 0))), (1, .inr (.inr (11, 0))), (0, .inr (.inr (99, 0)))] h := by
  unfold f_L_949
  refine s_aload1 3 rfl dL_law_949 ?_
  refine s_viI [] (fun l b hb hl => cf_X11_result G l  h b hb hl) me_X11_result vi_RL_111 rfl rfl rfl rfl rfl dL_law_950 (fun r128 => ?_)
  refine s_aload2 2 rfl dL_law_953 ?_
  refine s_viI [] (fun l b hb hl => cf_X12_result G l  r128.2 b hb hl) me_X12_result vi_RL_114 rfl rfl rfl rfl rfl dL_law_954 (fun r129 => ?_)
  refine s_ic_eq (tgt := 1493) dL_law_957 (by decide) (fun q130 => ?_) (fun q130 => ?_)
  · skip
    refine s_iincw 6 (by decide) 0 [(4, .inl (v4 + 6)), (3, .inr (.inr (98, 0))), (2, .inr (.inr (12, 0))), (1, .inr (.inr (11, 0))), (0, .inr (.inr (99, 0)))] rfl rfl rfl dL_law_1493 ?_
    refine s_goto (tgt := 23) dL_law_1496 (by decide) ?_
    exact s_loc [0, 1, 2, 3, 4] rfl (hkb _ (Or.inl rfl) (v4 + 6) r129.2)
  · skip
    refine s_k0 dL_law_960 ?_
    exact s_none
set_option maxRecDepth 20000 in
theorem sf_L_962 {G : mG} {X : mX} {b n k : Nat} {sc : Nat → Int32} {kb : Int32 → mH → Option mH} (hX : lwX G X b n sc (k + 1)) (hkb : lwK G X kb) (v4 : Int32) (h : mH) : lwS G X (f_L_962 sc n kb v4 h) 962 [(4, .inl v4), (3, .inr (.inr (98, 0))), (2, .inr (.inr (12, 0))), (1, .inr (.inr (11, 0))), (0, .inr (.inr (99, 0)))] h := by
  unfold f_L_962
  refine s_aload1 3 rfl dL_law_962 ?_
  refine s_aload0 4 rfl dL_law_963 ?_
  refine s_iload 0 rfl dL_law_964 ?_
  refine s_k1 dL_law_966 ?_
  refine s_iadd dL_law_967 ?_
  refine s_chk (fun q132 => ?_)
  refine s_sld hX q132 dL_law_968 ?_
  refine s_viI [.inl (sc (v4 + 1).toNatClampNeg)] (fun l b hb hl => cf_X11_breaks G l (sc (v4 + 1).toNatClampNeg) h b hb hl) me_X11_breaks vi_RL_115 rfl rfl rfl rfl rfl dL_law_969 (fun r133 => ?_)
  refine s_aload2 2 rfl dL_law_972 ?_
  refine s_aload0 4 rfl dL_law_973 ?_
  refine s_iload 0 rfl dL_law_974 ?_
  refine s_k1 dL_law_976 ?_
  refine s_iadd dL_law_977 ?_
  refine s_sld hX q132 dL_law_978 ?_
  refine s_viI [.inl (sc (v4 + 1).toNatClampNeg)] (fun l b hb hl => cf_X12_breaks G l (sc (v4 + 1).toNatClampNeg) r133.2 b hb hl) me_X12_breaks vi_RL_118 rfl rfl rfl rfl rfl dL_law_979 (fun r134 => ?_)
  refine s_ic_eq (tgt := 1493) dL_law_982 (by decide) (fun q135 => ?_) (fun q135 => ?_)
  · skip
    refine s_iincw 6 (by decide) 0 [(4, .inl (v4 + 6)), (3, .inr (.inr (98, 0))), (2, .inr (.inr (12, 0))), (1, .inr (.inr (11, 0))), (0, .inr (.inr (99, 0)))] rfl rfl rfl dL_law_1493 ?_
    refine s_goto (tgt := 23) dL_law_1496 (by decide) ?_
    exact s_loc [0, 1, 2, 3, 4] rfl (hkb _ (Or.inl rfl) (v4 + 6) r134.2)
  · skip
    refine s_k0 dL_law_985 ?_
    exact s_none
set_option maxRecDepth 20000 in
theorem sf_L_987 {G : mG} {X : mX} {b n k : Nat} {sc : Nat → Int32} {kb : Int32 → mH → Option mH} (hX : lwX G X b n sc (k + 1)) (hkb : lwK G X kb) (v4 : Int32) (h : mH) : lwS G X (f_L_987 sc n kb v4 h) 987 [(4, .inl v4), (3, .inr (.inr (98, 0))), (2, .inr (.inr (12, 0))), (1, .inr (.inr (11, 0))), (0, .inr (.inr (99, 0)))] h := by
  unfold f_L_987
  refine s_aload1 3 rfl dL_law_987 ?_
  refine s_aload0 4 rfl dL_law_988 ?_
  refine s_iload 0 rfl dL_law_989 ?_
  refine s_k1 dL_law_991 ?_
  refine s_iadd dL_law_992 ?_
  refine s_chk (fun q137 => ?_)
  refine s_sld hX q137 dL_law_993 ?_
  refine s_aload0 4 rfl dL_law_994 ?_
  refine s_iload 0 rfl dL_law_995 ?_
  refine s_k2 dL_law_997 ?_
  refine s_iadd dL_law_998 ?_
  refine s_chk (fun q138 => ?_)
  refine s_sld hX q138 dL_law_999 ?_
  refine s_viI [.inl (sc (v4 + 1).toNatClampNeg), .inl (sc (v4 + 2).toNatClampNeg)] (fun l b hb hl => cf_X11_walk G l (sc (v4 + 1).toNatClampNeg) (sc (v4 + 2).toNatClampNeg) h b hb hl) me_X11_walk vi_RL_119 rfl rfl rfl rfl rfl dL_law_1000 (fun r139 => ?_)
  refine s_aload2 2 rfl dL_law_1003 ?_
  refine s_aload0 4 rfl dL_law_1004 ?_
  refine s_iload 0 rfl dL_law_1005 ?_
  refine s_k1 dL_law_1007 ?_
  refine s_iadd dL_law_1008 ?_
  refine s_sld hX q137 dL_law_1009 ?_
  refine s_aload0 4 rfl dL_law_1010 ?_
  refine s_iload 0 rfl dL_law_1011 ?_
  refine s_k2 dL_law_1013 ?_
  refine s_iadd dL_law_1014 ?_
  refine s_sld hX q138 dL_law_1015 ?_
  refine s_viI [.inl (sc (v4 + 1).toNatClampNeg), .inl (sc (v4 + 2).toNatClampNeg)] (fun l b hb hl => cf_X12_walk G l (sc (v4 + 1).toNatClampNeg) (sc (v4 + 2).toNatClampNeg) r139.2 b hb hl) me_X12_walk vi_RL_122 rfl rfl rfl rfl rfl dL_law_1016 (fun r140 => ?_)
  refine s_ic_eq (tgt := 1493) dL_law_1019 (by decide) (fun q141 => ?_) (fun q141 => ?_)
  · skip
    refine s_iincw 6 (by decide) 0 [(4, .inl (v4 + 6)), (3, .inr (.inr (98, 0))), (2, .inr (.inr (12, 0))), (1, .inr (.inr (11, 0))), (0, .inr (.inr (99, 0)))] rfl rfl rfl dL_law_1493 ?_
    refine s_goto (tgt := 23) dL_law_1496 (by decide) ?_
    exact s_loc [0, 1, 2, 3, 4] rfl (hkb _ (Or.inl rfl) (v4 + 6) r140.2)
  · skip
    refine s_k0 dL_law_1022 ?_
    exact s_none
set_option maxRecDepth 20000 in
theorem sf_L_1024 {G : mG} {X : mX} {b n k : Nat} {sc : Nat → Int32} {kb : Int32 → mH → Option mH} (hX : lwX G X b n sc (k + 1)) (hkb : lwK G X kb) (v4 : Int32) (h : mH) : lwS G X (f_L_1024 sc n kb v4 h) 1024 [(4, .inl v4), (3, .inr (.inr (98, 0))), (2, .inr (.inr (12, 0))), (1, .inr (.inr (11, 0))), (0, .inr (.inr (99, 0)))] h := by
  unfold f_L_1024
  refine s_aload1 3 rfl dL_law_1024 ?_
  refine s_aload0 4 rfl dL_law_1025 ?_
  refine s_iload 0 rfl dL_law_1026 ?_
  refine s_k1 dL_law_1028 ?_
  refine s_iadd dL_law_1029 ?_
  refine s_chk (fun q143 => ?_)
  refine s_sld hX q143 dL_law_1030 ?_
  refine s_viI [.inl (sc (v4 + 1).toNatClampNeg)] (fun l b hb hl => cf_X11_why G l (sc (v4 + 1).toNatClampNeg) h b hb hl) me_X11_why vi_RL_123 rfl rfl rfl rfl rfl dL_law_1031 (fun r144 => ?_)
  refine s_aload2 2 rfl dL_law_1034 ?_
  refine s_aload0 4 rfl dL_law_1035 ?_
  refine s_iload 0 rfl dL_law_1036 ?_
  refine s_k1 dL_law_1038 ?_
  refine s_iadd dL_law_1039 ?_
  refine s_sld hX q143 dL_law_1040 ?_
  refine s_viI [.inl (sc (v4 + 1).toNatClampNeg)] (fun l b hb hl => cf_X12_why G l (sc (v4 + 1).toNatClampNeg) r144.2 b hb hl) me_X12_why vi_RL_126 rfl rfl rfl rfl rfl dL_law_1041 (fun r145 => ?_)
  refine s_ic_eq (tgt := 1493) dL_law_1044 (by decide) (fun q146 => ?_) (fun q146 => ?_)
  · skip
    refine s_iincw 6 (by decide) 0 [(4, .inl (v4 + 6)), (3, .inr (.inr (98, 0))), (2, .inr (.inr (12, 0))), (1, .inr (.inr (11, 0))), (0, .inr (.inr (99, 0)))] rfl rfl rfl dL_law_1493 ?_
    refine s_goto (tgt := 23) dL_law_1496 (by decide) ?_
    exact s_loc [0, 1, 2, 3, 4] rfl (hkb _ (Or.inl rfl) (v4 + 6) r145.2)
  · skip
    refine s_k0 dL_law_1047 ?_
    exact s_none
set_option maxRecDepth 20000 in
theorem sf_L_1049 {G : mG} {X : mX} {b n k : Nat} {sc : Nat → Int32} {kb : Int32 → mH → Option mH} (hX : lwX G X b n sc (k + 1)) (hkb : lwK G X kb) (v4 : Int32) (h : mH) : lwS G X (f_L_1049 sc n kb v4 h) 1049 [(4, .inl v4), (3, .inr (.inr (98, 0))), (2, .inr (.inr (12, 0))), (1, .inr (.inr (11, 0))), (0, .inr (.inr (99, 0)))] h := by
  unfold f_L_1049
  refine s_aload1 3 rfl dL_law_1049 ?_
  refine s_aload0 4 rfl dL_law_1050 ?_
  refine s_iload 0 rfl dL_law_1051 ?_
  refine s_k1 dL_law_1053 ?_
  refine s_iadd dL_law_1054 ?_
  refine s_chk (fun q148 => ?_)
  refine s_sld hX q148 dL_law_1055 ?_
  refine s_aload0 4 rfl dL_law_1056 ?_
  refine s_iload 0 rfl dL_law_1057 ?_
  refine s_k2 dL_law_1059 ?_
  refine s_iadd dL_law_1060 ?_
  refine s_chk (fun q149 => ?_)
  refine s_sld hX q149 dL_law_1061 ?_
  refine s_aload0 4 rfl dL_law_1062 ?_
  refine s_iload 0 rfl dL_law_1063 ?_
  refine s_k3 dL_law_1065 ?_
  refine s_iadd dL_law_1066 ?_
  refine s_chk (fun q150 => ?_)
  refine s_sld hX q150 dL_law_1067 ?_
  refine s_viI [.inl (sc (v4 + 1).toNatClampNeg), .inl (sc (v4 + 2).toNatClampNeg), .inl (sc (v4 + 3).toNatClampNeg)] (fun l b hb hl => cf_X11_tape G l (sc (v4 + 1).toNatClampNeg) (sc (v4 + 2).toNatClampNeg) (sc (v4 + 3).toNatClampNeg) h b hb hl) me_X11_tape vi_RL_127 rfl rfl rfl rfl rfl dL_law_1068 (fun r151 => ?_)
  refine s_aload2 2 rfl dL_law_1071 ?_
  refine s_aload0 4 rfl dL_law_1072 ?_
  refine s_iload 0 rfl dL_law_1073 ?_
  refine s_k1 dL_law_1075 ?_
  refine s_iadd dL_law_1076 ?_
  refine s_sld hX q148 dL_law_1077 ?_
  refine s_aload0 4 rfl dL_law_1078 ?_
  refine s_iload 0 rfl dL_law_1079 ?_
  refine s_k2 dL_law_1081 ?_
  refine s_iadd dL_law_1082 ?_
  refine s_sld hX q149 dL_law_1083 ?_
  refine s_aload0 4 rfl dL_law_1084 ?_
  refine s_iload 0 rfl dL_law_1085 ?_
  refine s_k3 dL_law_1087 ?_
  refine s_iadd dL_law_1088 ?_
  refine s_sld hX q150 dL_law_1089 ?_
  refine s_viI [.inl (sc (v4 + 1).toNatClampNeg), .inl (sc (v4 + 2).toNatClampNeg), .inl (sc (v4 + 3).toNatClampNeg)] (fun l b hb hl => cf_X12_tape G l (sc (v4 + 1).toNatClampNeg) (sc (v4 + 2).toNatClampNeg) (sc (v4 + 3).toNatClampNeg) r151.2 b hb hl) me_X12_tape vi_RL_130 rfl rfl rfl rfl rfl dL_law_1090 (fun r152 => ?_)
  refine s_ic_eq (tgt := 1493) dL_law_1093 (by decide) (fun q153 => ?_) (fun q153 => ?_)
  · skip
    refine s_iincw 6 (by decide) 0 [(4, .inl (v4 + 6)), (3, .inr (.inr (98, 0))), (2, .inr (.inr (12, 0))), (1, .inr (.inr (11, 0))), (0, .inr (.inr (99, 0)))] rfl rfl rfl dL_law_1493 ?_
    refine s_goto (tgt := 23) dL_law_1496 (by decide) ?_
    exact s_loc [0, 1, 2, 3, 4] rfl (hkb _ (Or.inl rfl) (v4 + 6) r152.2)
  · skip
    refine s_k0 dL_law_1096 ?_
    exact s_none
set_option maxRecDepth 20000 in
theorem sf_L_1098 {G : mG} {X : mX} {b n k : Nat} {sc : Nat → Int32} {kb : Int32 → mH → Option mH} (hX : lwX G X b n sc (k + 1)) (hkb : lwK G X kb) (v4 : Int32) (h : mH) : lwS G X (f_L_1098 sc n kb v4 h) 1098 [(4, .inl v4), (3, .inr (.inr (98, 0))), (2, .inr (.inr (12, 0))), (1, .inr (.inr (11, 0))), (0, .inr (.inr (99, 0)))] h := by
  unfold f_L_1098
  refine s_aload1 3 rfl dL_law_1098 ?_
  refine s_aload0 4 rfl dL_law_1099 ?_
  refine s_iload 0 rfl dL_law_1100 ?_
  refine s_k1 dL_law_1102 ?_
  refine s_iadd dL_law_1103 ?_
  refine s_chk (fun q155 => ?_)
  refine s_sld hX q155 dL_law_1104 ?_
  refine s_viI [.inl (sc (v4 + 1).toNatClampNeg)] (fun l b hb hl => cf_X11_image G l (sc (v4 + 1).toNatClampNeg) h b hb hl) me_X11_image vi_RL_131 rfl rfl rfl rfl rfl dL_law_1105 (fun r156 => ?_)
  refine s_aload2 2 rfl dL_law_1108 ?_
  refine s_aload0 4 rfl dL_law_1109 ?_
  refine s_iload 0 rfl dL_law_1110 ?_
  refine s_k1 dL_law_1112 ?_
  refine s_iadd dL_law_1113 ?_
  refine s_sld hX q155 dL_law_1114 ?_
  refine s_viI [.inl (sc (v4 + 1).toNatClampNeg)] (fun l b hb hl => cf_X12_image G l (sc (v4 + 1).toNatClampNeg) r156.2 b hb hl) me_X12_image vi_RL_134 rfl rfl rfl rfl rfl dL_law_1115 (fun r157 => ?_)
  refine s_ic_eq (tgt := 1493) dL_law_1118 (by decide) (fun q158 => ?_) (fun q158 => ?_)
  · skip
    refine s_iincw 6 (by decide) 0 [(4, .inl (v4 + 6)), (3, .inr (.inr (98, 0))), (2, .inr (.inr (12, 0))), (1, .inr (.inr (11, 0))), (0, .inr (.inr (99, 0)))] rfl rfl rfl dL_law_1493 ?_
    refine s_goto (tgt := 23) dL_law_1496 (by decide) ?_
    exact s_loc [0, 1, 2, 3, 4] rfl (hkb _ (Or.inl rfl) (v4 + 6) r157.2)
  · skip
    refine s_k0 dL_law_1121 ?_
    exact s_none
set_option maxRecDepth 20000 in
theorem sf_L_1123 {G : mG} {X : mX} {b n k : Nat} {sc : Nat → Int32} {kb : Int32 → mH → Option mH} (hX : lwX G X b n sc (k + 1)) (hkb : lwK G X kb) (v4 : Int32) (h : mH) : lwS G X (f_L_1123 sc n kb v4 h) 1123 [(4, .inl v4), (3, .inr (.inr (98, 0))), (2, .inr (.inr (12, 0))), (1, .inr (.inr (11, 0))), (0, .inr (.inr (99, 0)))] h := by
  unfold f_L_1123
  refine s_aload1 3 rfl dL_law_1123 ?_
  refine s_aload0 4 rfl dL_law_1124 ?_
  refine s_iload 0 rfl dL_law_1125 ?_
  refine s_k1 dL_law_1127 ?_
  refine s_iadd dL_law_1128 ?_
  refine s_chk (fun q160 => ?_)
  refine s_sld hX q160 dL_law_1129 ?_
  refine s_viI [.inl (sc (v4 + 1).toNatClampNeg)] (fun l b hb hl => cf_X11_back G l (sc (v4 + 1).toNatClampNeg) h b hb hl) me_X11_back vi_RL_135 rfl rfl rfl rfl rfl dL_law_1130 (fun r161 => ?_)
  refine s_aload2 2 rfl dL_law_1133 ?_
  refine s_aload0 4 rfl dL_law_1134 ?_
  refine s_iload 0 rfl dL_law_1135 ?_
  refine s_k1 dL_law_1137 ?_
  refine s_iadd dL_law_1138 ?_
  refine s_sld hX q160 dL_law_1139 ?_
  refine s_viI [.inl (sc (v4 + 1).toNatClampNeg)] (fun l b hb hl => cf_X12_back G l (sc (v4 + 1).toNatClampNeg) r161.2 b hb hl) me_X12_back vi_RL_138 rfl rfl rfl rfl rfl dL_law_1140 (fun r162 => ?_)
  refine s_ic_eq (tgt := 1493) dL_law_1143 (by decide) (fun q163 => ?_) (fun q163 => ?_)
  · skip
    refine s_iincw 6 (by decide) 0 [(4, .inl (v4 + 6)), (3, .inr (.inr (98, 0))), (2, .inr (.inr (12, 0))), (1, .inr (.inr (11, 0))), (0, .inr (.inr (99, 0)))] rfl rfl rfl dL_law_1493 ?_
    refine s_goto (tgt := 23) dL_law_1496 (by decide) ?_
    exact s_loc [0, 1, 2, 3, 4] rfl (hkb _ (Or.inl rfl) (v4 + 6) r162.2)
  · skip
    refine s_k0 dL_law_1146 ?_
    exact s_none
set_option maxRecDepth 20000 in
theorem sf_L_1148 {G : mG} {X : mX} {b n k : Nat} {sc : Nat → Int32} {kb : Int32 → mH → Option mH} (hX : lwX G X b n sc (k + 1)) (hkb : lwK G X kb) (v4 : Int32) (h : mH) : lwS G X (f_L_1148 sc n kb v4 h) 1148 [(4, .inl v4), (3, .inr (.inr (98, 0))), (2, .inr (.inr (12, 0))), (1, .inr (.inr (11, 0))), (0, .inr (.inr (99, 0)))] h := by
  unfold f_L_1148
  refine s_aload1 3 rfl dL_law_1148 ?_
  refine s_aload0 4 rfl dL_law_1149 ?_
  refine s_iload 0 rfl dL_law_1150 ?_
  refine s_k1 dL_law_1152 ?_
  refine s_iadd dL_law_1153 ?_
  refine s_chk (fun q165 => ?_)
  refine s_sld hX q165 dL_law_1154 ?_
  refine s_toss (sc (v4 + 1).toNatClampNeg) hX nk_RL_139 rfl rfl dL_law_1155 (fun r166 => ?_)
  refine s_aload2 2 rfl dL_law_1158 ?_
  refine s_aload0 4 rfl dL_law_1159 ?_
  refine s_iload 0 rfl dL_law_1160 ?_
  refine s_k1 dL_law_1162 ?_
  refine s_iadd dL_law_1163 ?_
  refine s_sld (lwX_up hX) q165 dL_law_1164 ?_
  refine s_viI [.inl (sc (v4 + 1).toNatClampNeg)] (fun l b hb hl => cf_X12_toss G l (sc (v4 + 1).toNatClampNeg) r166.2 b hb hl) me_X12_toss vi_RL_142 rfl rfl rfl rfl rfl dL_law_1165 (fun r167 => ?_)
  refine s_ic_eq (tgt := 1493) dL_law_1168 (by decide) (fun q168 => ?_) (fun q168 => ?_)
  · skip
    refine s_iincw 6 (by decide) 0 [(4, .inl (v4 + 6)), (3, .inr (.inr (98, 0))), (2, .inr (.inr (12, 0))), (1, .inr (.inr (11, 0))), (0, .inr (.inr (99, 0)))] rfl rfl rfl dL_law_1493 ?_
    refine s_goto (tgt := 23) dL_law_1496 (by decide) ?_
    exact s_loc [0, 1, 2, 3, 4] rfl (hkb _ (Or.inr rfl) (v4 + 6) r167.2)
  · skip
    refine s_k0 dL_law_1171 ?_
    exact s_none
set_option maxRecDepth 20000 in
theorem sf_L_1173 {G : mG} {X : mX} {b n k : Nat} {sc : Nat → Int32} {kb : Int32 → mH → Option mH} (hX : lwX G X b n sc (k + 1)) (hkb : lwK G X kb) (v4 : Int32) (h : mH) : lwS G X (f_L_1173 sc n kb v4 h) 1173 [(4, .inl v4), (3, .inr (.inr (98, 0))), (2, .inr (.inr (12, 0))), (1, .inr (.inr (11, 0))), (0, .inr (.inr (99, 0)))] h := by
  unfold f_L_1173
  refine s_aload1 3 rfl dL_law_1173 ?_
  refine s_aload0 4 rfl dL_law_1174 ?_
  refine s_iload 0 rfl dL_law_1175 ?_
  refine s_k1 dL_law_1177 ?_
  refine s_iadd dL_law_1178 ?_
  refine s_chk (fun q170 => ?_)
  refine s_sld hX q170 dL_law_1179 ?_
  refine s_aload0 4 rfl dL_law_1180 ?_
  refine s_iload 0 rfl dL_law_1181 ?_
  refine s_k2 dL_law_1183 ?_
  refine s_iadd dL_law_1184 ?_
  refine s_chk (fun q171 => ?_)
  refine s_sld hX q171 dL_law_1185 ?_
  refine s_aload0 4 rfl dL_law_1186 ?_
  refine s_iload 0 rfl dL_law_1187 ?_
  refine s_k3 dL_law_1189 ?_
  refine s_iadd dL_law_1190 ?_
  refine s_chk (fun q172 => ?_)
  refine s_sld hX q172 dL_law_1191 ?_
  refine s_viI [.inl (sc (v4 + 1).toNatClampNeg), .inl (sc (v4 + 2).toNatClampNeg), .inl (sc (v4 + 3).toNatClampNeg)] (fun l b hb hl => cf_X11_play G l (sc (v4 + 1).toNatClampNeg) (sc (v4 + 2).toNatClampNeg) (sc (v4 + 3).toNatClampNeg) h b hb hl) me_X11_play vi_RL_143 rfl rfl rfl rfl rfl dL_law_1192 (fun r173 => ?_)
  refine s_aload2 2 rfl dL_law_1195 ?_
  refine s_aload0 4 rfl dL_law_1196 ?_
  refine s_iload 0 rfl dL_law_1197 ?_
  refine s_k1 dL_law_1199 ?_
  refine s_iadd dL_law_1200 ?_
  refine s_sld hX q170 dL_law_1201 ?_
  refine s_aload0 4 rfl dL_law_1202 ?_
  refine s_iload 0 rfl dL_law_1203 ?_
  refine s_k2 dL_law_1205 ?_
  refine s_iadd dL_law_1206 ?_
  refine s_sld hX q171 dL_law_1207 ?_
  refine s_aload0 4 rfl dL_law_1208 ?_
  refine s_iload 0 rfl dL_law_1209 ?_
  refine s_k3 dL_law_1211 ?_
  refine s_iadd dL_law_1212 ?_
  refine s_sld hX q172 dL_law_1213 ?_
  refine s_viI [.inl (sc (v4 + 1).toNatClampNeg), .inl (sc (v4 + 2).toNatClampNeg), .inl (sc (v4 + 3).toNatClampNeg)] (fun l b hb hl => cf_X12_play G l (sc (v4 + 1).toNatClampNeg) (sc (v4 + 2).toNatClampNeg) (sc (v4 + 3).toNatClampNeg) r173.2 b hb hl) me_X12_play vi_RL_146 rfl rfl rfl rfl rfl dL_law_1214 (fun r174 => ?_)
  refine s_ic_eq (tgt := 1493) dL_law_1217 (by decide) (fun q175 => ?_) (fun q175 => ?_)
  · skip
    refine s_iincw 6 (by decide) 0 [(4, .inl (v4 + 6)), (3, .inr (.inr (98, 0))), (2, .inr (.inr (12, 0))), (1, .inr (.inr (11, 0))), (0, .inr (.inr (99, 0)))] rfl rfl rfl dL_law_1493 ?_
    refine s_goto (tgt := 23) dL_law_1496 (by decide) ?_
    exact s_loc [0, 1, 2, 3, 4] rfl (hkb _ (Or.inl rfl) (v4 + 6) r174.2)
  · skip
    refine s_k0 dL_law_1220 ?_
    exact s_none
set_option maxRecDepth 20000 in
theorem sf_L_1222 {G : mG} {X : mX} {b n k : Nat} {sc : Nat → Int32} {kb : Int32 → mH → Option mH} (hX : lwX G X b n sc (k + 1)) (hkb : lwK G X kb) (v4 : Int32) (h : mH) : lwS G X (f_L_1222 sc n kb v4 h) 1222 [(4, .inl v4), (3, .inr (.inr (98, 0))), (2, .inr (.inr (12, 0))), (1, .inr (.inr (11, 0))), (0, .inr (.inr (99, 0)))] h := by
  unfold f_L_1222
  refine s_aload1 3 rfl dL_law_1222 ?_
  refine s_aload0 4 rfl dL_law_1223 ?_
  refine s_iload 0 rfl dL_law_1224 ?_
  refine s_k1 dL_law_1226 ?_
  refine s_iadd dL_law_1227 ?_
  refine s_chk (fun q177 => ?_)
  refine s_sld hX q177 dL_law_1228 ?_
  refine s_viI [.inl (sc (v4 + 1).toNatClampNeg)] (fun l b hb hl => cf_X11_clear G l (sc (v4 + 1).toNatClampNeg) h b hb hl) me_X11_clear vi_RL_147 rfl rfl rfl rfl rfl dL_law_1229 (fun r178 => ?_)
  refine s_aload2 2 rfl dL_law_1232 ?_
  refine s_aload0 4 rfl dL_law_1233 ?_
  refine s_iload 0 rfl dL_law_1234 ?_
  refine s_k1 dL_law_1236 ?_
  refine s_iadd dL_law_1237 ?_
  refine s_sld hX q177 dL_law_1238 ?_
  refine s_viI [.inl (sc (v4 + 1).toNatClampNeg)] (fun l b hb hl => cf_X12_clear G l (sc (v4 + 1).toNatClampNeg) r178.2 b hb hl) me_X12_clear vi_RL_150 rfl rfl rfl rfl rfl dL_law_1239 (fun r179 => ?_)
  refine s_ic_eq (tgt := 1493) dL_law_1242 (by decide) (fun q180 => ?_) (fun q180 => ?_)
  · skip
    refine s_iincw 6 (by decide) 0 [(4, .inl (v4 + 6)), (3, .inr (.inr (98, 0))), (2, .inr (.inr (12, 0))), (1, .inr (.inr (11, 0))), (0, .inr (.inr (99, 0)))] rfl rfl rfl dL_law_1493 ?_
    refine s_goto (tgt := 23) dL_law_1496 (by decide) ?_
    exact s_loc [0, 1, 2, 3, 4] rfl (hkb _ (Or.inl rfl) (v4 + 6) r179.2)
  · skip
    refine s_k0 dL_law_1245 ?_
    exact s_none
set_option maxRecDepth 20000 in
theorem sf_L_1247 {G : mG} {X : mX} {b n k : Nat} {sc : Nat → Int32} {kb : Int32 → mH → Option mH} (hX : lwX G X b n sc (k + 1)) (hkb : lwK G X kb) (v4 : Int32) (h : mH) : lwS G X (f_L_1247 sc n kb v4 h) 1247 [(4, .inl v4), (3, .inr (.inr (98, 0))), (2, .inr (.inr (12, 0))), (1, .inr (.inr (11, 0))), (0, .inr (.inr (99, 0)))] h := by
  unfold f_L_1247
  refine s_aload1 3 rfl dL_law_1247 ?_
  refine s_aload0 4 rfl dL_law_1248 ?_
  refine s_iload 0 rfl dL_law_1249 ?_
  refine s_k1 dL_law_1251 ?_
  refine s_iadd dL_law_1252 ?_
  refine s_chk (fun q182 => ?_)
  refine s_sld hX q182 dL_law_1253 ?_
  refine s_aload0 4 rfl dL_law_1254 ?_
  refine s_iload 0 rfl dL_law_1255 ?_
  refine s_k2 dL_law_1257 ?_
  refine s_iadd dL_law_1258 ?_
  refine s_chk (fun q183 => ?_)
  refine s_sld hX q183 dL_law_1259 ?_
  refine s_aload0 4 rfl dL_law_1260 ?_
  refine s_iload 0 rfl dL_law_1261 ?_
  refine s_k3 dL_law_1263 ?_
  refine s_iadd dL_law_1264 ?_
  refine s_chk (fun q184 => ?_)
  refine s_sld hX q184 dL_law_1265 ?_
  refine s_i2l dL_law_1266 ?_
  refine s_bip 32 kb_32 dL_law_1267 ?_
  refine s_lshl dL_law_1269 ?_
  refine s_aload0 4 rfl dL_law_1270 ?_
  refine s_iload 0 rfl dL_law_1271 ?_
  refine s_k4 dL_law_1273 ?_
  refine s_iadd dL_law_1274 ?_
  refine s_chk (fun q185 => ?_)
  refine s_sld hX q185 dL_law_1275 ?_
  refine s_i2l dL_law_1276 ?_
  refine s_ldc2 (v := 4294967295) kc_RL_151 dL_law_1277 ?_
  refine s_land dL_law_1280 ?_
  refine s_lor dL_law_1281 ?_
  refine s_viI [.inl (sc (v4 + 1).toNatClampNeg), .inl (sc (v4 + 2).toNatClampNeg), .inr (.inl ((((sc (v4 + 3).toNatClampNeg).toInt64) <<< ((32 : Int32).toInt64 &&& 63)) ||| (((sc (v4 + 4).toNatClampNeg).toInt64) &&& 4294967295)))] (fun l b hb hl => cf_X11_put G l (sc (v4 + 1).toNatClampNeg) (sc (v4 + 2).toNatClampNeg) ((((sc (v4 + 3).toNatClampNeg).toInt64) <<< ((32 : Int32).toInt64 &&& 63)) ||| (((sc (v4 + 4).toNatClampNeg).toInt64) &&& 4294967295)) h b hb hl) me_X11_put vi_RL_153 rfl rfl rfl rfl rfl dL_law_1282 (fun r186 => ?_)
  refine s_aload2 2 rfl dL_law_1285 ?_
  refine s_aload0 4 rfl dL_law_1286 ?_
  refine s_iload 0 rfl dL_law_1287 ?_
  refine s_k1 dL_law_1289 ?_
  refine s_iadd dL_law_1290 ?_
  refine s_sld hX q182 dL_law_1291 ?_
  refine s_aload0 4 rfl dL_law_1292 ?_
  refine s_iload 0 rfl dL_law_1293 ?_
  refine s_k2 dL_law_1295 ?_
  refine s_iadd dL_law_1296 ?_
  refine s_sld hX q183 dL_law_1297 ?_
  refine s_aload0 4 rfl dL_law_1298 ?_
  refine s_iload 0 rfl dL_law_1299 ?_
  refine s_k3 dL_law_1301 ?_
  refine s_iadd dL_law_1302 ?_
  refine s_sld hX q184 dL_law_1303 ?_
  refine s_i2l dL_law_1304 ?_
  refine s_bip 32 kb_32 dL_law_1305 ?_
  refine s_lshl dL_law_1307 ?_
  refine s_aload0 4 rfl dL_law_1308 ?_
  refine s_iload 0 rfl dL_law_1309 ?_
  refine s_k4 dL_law_1311 ?_
  refine s_iadd dL_law_1312 ?_
  refine s_sld hX q185 dL_law_1313 ?_
  refine s_i2l dL_law_1314 ?_
  refine s_ldc2 (v := 4294967295) kc_RL_151 dL_law_1315 ?_
  refine s_land dL_law_1318 ?_
  refine s_lor dL_law_1319 ?_
  refine s_viI [.inl (sc (v4 + 1).toNatClampNeg), .inl (sc (v4 + 2).toNatClampNeg), .inr (.inl ((((sc (v4 + 3).toNatClampNeg).toInt64) <<< ((32 : Int32).toInt64 &&& 63)) ||| (((sc (v4 + 4).toNatClampNeg).toInt64) &&& 4294967295)))] (fun l b hb hl => cf_X12_put G l (sc (v4 + 1).toNatClampNeg) (sc (v4 + 2).toNatClampNeg) ((((sc (v4 + 3).toNatClampNeg).toInt64) <<< ((32 : Int32).toInt64 &&& 63)) ||| (((sc (v4 + 4).toNatClampNeg).toInt64) &&& 4294967295)) r186.2 b hb hl) me_X12_put vi_RL_157 rfl rfl rfl rfl rfl dL_law_1320 (fun r187 => ?_)
  refine s_ic_eq (tgt := 1493) dL_law_1323 (by decide) (fun q188 => ?_) (fun q188 => ?_)
  · skip
    refine s_iincw 6 (by decide) 0 [(4, .inl (v4 + 6)), (3, .inr (.inr (98, 0))), (2, .inr (.inr (12, 0))), (1, .inr (.inr (11, 0))), (0, .inr (.inr (99, 0)))] rfl rfl rfl dL_law_1493 ?_
    refine s_goto (tgt := 23) dL_law_1496 (by decide) ?_
    exact s_loc [0, 1, 2, 3, 4] rfl (hkb _ (Or.inl rfl) (v4 + 6) r187.2)
  · skip
    refine s_k0 dL_law_1326 ?_
    exact s_none
set_option maxRecDepth 20000 in
theorem sf_L_1328 {G : mG} {X : mX} {b n k : Nat} {sc : Nat → Int32} {kb : Int32 → mH → Option mH} (hX : lwX G X b n sc (k + 1)) (hkb : lwK G X kb) (v4 : Int32) (h : mH) : lwS G X (f_L_1328 sc n kb v4 h) 1328 [(4, .inl v4), (3, .inr (.inr (98, 0))), (2, .inr (.inr (12, 0))), (1, .inr (.inr (11, 0))), (0, .inr (.inr (99, 0)))] h := by
  unfold f_L_1328
  refine s_aload1 3 rfl dL_law_1328 ?_
  refine s_aload0 4 rfl dL_law_1329 ?_
  refine s_iload 0 rfl dL_law_1330 ?_
  refine s_k1 dL_law_1332 ?_
  refine s_iadd dL_law_1333 ?_
  refine s_chk (fun q190 => ?_)
  refine s_sld hX q190 dL_law_1334 ?_
  refine s_aload0 4 rfl dL_law_1335 ?_
  refine s_iload 0 rfl dL_law_1336 ?_
  refine s_k2 dL_law_1338 ?_
  refine s_iadd dL_law_1339 ?_
  refine s_chk (fun q191 => ?_)
  refine s_sld hX q191 dL_law_1340 ?_
  refine s_aload3 1 rfl dL_law_1341 ?_
  refine s_lat (sc (v4 + 1).toNatClampNeg) (sc (v4 + 2).toNatClampNeg) hX nk_RL_158 rfl rfl dL_law_1342 (fun r192 => ?_)
  refine s_istorew [(5, .inl r192.1), (4, .inl v4), (3, .inr (.inr (98, 0))), (2, .inr (.inr (12, 0))), (1, .inr (.inr (11, 0))), (0, .inr (.inr (99, 0)))] rfl rfl dL_law_1345 ?_
  refine s_aload2 3 rfl dL_law_1347 ?_
  refine s_aload0 5 rfl dL_law_1348 ?_
  refine s_iload 1 rfl dL_law_1349 ?_
  refine s_k1 dL_law_1351 ?_
  refine s_iadd dL_law_1352 ?_
  refine s_sld (lwX_up hX) q190 dL_law_1353 ?_
  refine s_aload0 5 rfl dL_law_1354 ?_
  refine s_iload 1 rfl dL_law_1355 ?_
  refine s_k2 dL_law_1357 ?_
  refine s_iadd dL_law_1358 ?_
  refine s_sld (lwX_up hX) q191 dL_law_1359 ?_
  refine s_viJ [.inl (sc (v4 + 1).toNatClampNeg), .inl (sc (v4 + 2).toNatClampNeg)] (fun l b hb hl => cf_X12_at G l (sc (v4 + 1).toNatClampNeg) (sc (v4 + 2).toNatClampNeg) r192.2 b hb hl) me_X12_at vi_RL_163 rfl rfl rfl rfl rfl dL_law_1360 (fun r193 => ?_)
  refine s_lstorew [(6, .inr (.inl r193.1)), (5, .inl r192.1), (4, .inl v4), (3, .inr (.inr (98, 0))), (2, .inr (.inr (12, 0))), (1, .inr (.inr (11, 0))), (0, .inr (.inr (99, 0)))] rfl rfl dL_law_1363 ?_
  refine s_aload2 4 rfl dL_law_1365 ?_
  refine s_viI [] (fun l b hb hl => cf_X12_thrown G l  r193.2 b hb hl) me_X12_thrown vi_RL_164 rfl rfl rfl rfl rfl dL_law_1366 (fun r194 => ?_)
  refine s_iload 1 rfl dL_law_1369 ?_
  refine s_ic_eq (tgt := 1376) dL_law_1371 (by decide) (fun q195 => ?_) (fun q195 => ?_)
  · skip
    refine s_iload 1 rfl dL_law_1376 ?_
    refine s_if_ne (tgt := 1392) dL_law_1378 (by decide) (fun q196 => ?_) (fun q196 => ?_)
    · skip
      refine s_goto (tgt := 1493) dL_law_1392 (by decide) ?_
      refine s_iincw 6 (by decide) 2 [(4, .inl (v4 + 6)), (6, .inr (.inl r193.1)), (5, .inl r192.1), (3, .inr (.inr (98, 0))), (2, .inr (.inr (12, 0))), (1, .inr (.inr (11, 0))), (0, .inr (.inr (99, 0)))] rfl rfl rfl dL_law_1493 ?_
      refine s_goto (tgt := 23) dL_law_1496 (by decide) ?_
      exact s_loc [0, 3, 4, 5, 6] rfl (hkb _ (Or.inr rfl) (v4 + 6) r194.2)
    · skip
      refine s_aload3 3 rfl dL_law_1381 ?_
      refine s_k0 dL_law_1382 ?_
      refine s_lal aT_98 (by decide) dL_law_1383 ?_
      refine s_lload 0 rfl dL_law_1384 ?_
      refine s_lcmp dL_law_1386 ?_
      refine s_if_eq (tgt := 1392) dL_law_1387 (by decide) (fun q197 => ?_) (fun q197 => ?_)
      · skip
        refine s_goto (tgt := 1493) dL_law_1392 (by decide) ?_
        refine s_iincw 6 (by decide) 2 [(4, .inl (v4 + 6)), (6, .inr (.inl r193.1)), (5, .inl r192.1), (3, .inr (.inr (98, 0))), (2, .inr (.inr (12, 0))), (1, .inr (.inr (11, 0))), (0, .inr (.inr (99, 0)))] rfl rfl rfl dL_law_1493 ?_
        refine s_goto (tgt := 23) dL_law_1496 (by decide) ?_
        exact s_loc [0, 3, 4, 5, 6] rfl (hkb _ (Or.inr rfl) (v4 + 6) r194.2)
      · skip
        refine s_k0 dL_law_1390 ?_
        exact s_none
  · skip
    refine s_k0 dL_law_1374 ?_
    exact s_none
set_option maxRecDepth 20000 in
theorem sf_L_1395 {G : mG} {X : mX} {b n k : Nat} {sc : Nat → Int32} {kb : Int32 → mH → Option mH} (hX : lwX G X b n sc (k + 1)) (hkb : lwK G X kb) (v4 : Int32) (h : mH) : lwS G X (f_L_1395 sc n kb v4 h) 1395 [(4, .inl v4), (3, .inr (.inr (98, 0))), (2, .inr (.inr (12, 0))), (1, .inr (.inr (11, 0))), (0, .inr (.inr (99, 0)))] h := by
  unfold f_L_1395
  refine s_aload1 3 rfl dL_law_1395 ?_
  refine s_aload0 4 rfl dL_law_1396 ?_
  refine s_iload 0 rfl dL_law_1397 ?_
  refine s_k1 dL_law_1399 ?_
  refine s_iadd dL_law_1400 ?_
  refine s_chk (fun q199 => ?_)
  refine s_sld hX q199 dL_law_1401 ?_
  refine s_aload0 4 rfl dL_law_1402 ?_
  refine s_iload 0 rfl dL_law_1403 ?_
  refine s_k2 dL_law_1405 ?_
  refine s_iadd dL_law_1406 ?_
  refine s_chk (fun q200 => ?_)
  refine s_sld hX q200 dL_law_1407 ?_
  refine s_aload0 4 rfl dL_law_1408 ?_
  refine s_iload 0 rfl dL_law_1409 ?_
  refine s_k3 dL_law_1411 ?_
  refine s_iadd dL_law_1412 ?_
  refine s_chk (fun q201 => ?_)
  refine s_sld hX q201 dL_law_1413 ?_
  refine s_aload0 4 rfl dL_law_1414 ?_
  refine s_iload 0 rfl dL_law_1415 ?_
  refine s_k4 dL_law_1417 ?_
  refine s_iadd dL_law_1418 ?_
  refine s_chk (fun q202 => ?_)
  refine s_sld hX q202 dL_law_1419 ?_
  refine s_aload0 4 rfl dL_law_1420 ?_
  refine s_iload 0 rfl dL_law_1421 ?_
  refine s_k5 dL_law_1423 ?_
  refine s_iadd dL_law_1424 ?_
  refine s_chk (fun q203 => ?_)
  refine s_sld hX q203 dL_law_1425 ?_
  refine s_viI [.inl (sc (v4 + 1).toNatClampNeg), .inl (sc (v4 + 2).toNatClampNeg), .inl (sc (v4 + 3).toNatClampNeg), .inl (sc (v4 + 4).toNatClampNeg), .inl (sc (v4 + 5).toNatClampNeg)] (fun l b hb hl => cf_X11_copy G l (sc (v4 + 1).toNatClampNeg) (sc (v4 + 2).toNatClampNeg) (sc (v4 + 3).toNatClampNeg) (sc (v4 + 4).toNatClampNeg) (sc (v4 + 5).toNatClampNeg) h b hb hl) me_X11_copy vi_RL_167 rfl rfl rfl rfl rfl dL_law_1426 (fun r204 => ?_)
  refine s_aload2 2 rfl dL_law_1429 ?_
  refine s_aload0 4 rfl dL_law_1430 ?_
  refine s_iload 0 rfl dL_law_1431 ?_
  refine s_k1 dL_law_1433 ?_
  refine s_iadd dL_law_1434 ?_
  refine s_sld hX q199 dL_law_1435 ?_
  refine s_aload0 4 rfl dL_law_1436 ?_
  refine s_iload 0 rfl dL_law_1437 ?_
  refine s_k2 dL_law_1439 ?_
  refine s_iadd dL_law_1440 ?_
  refine s_sld hX q200 dL_law_1441 ?_
  refine s_aload0 4 rfl dL_law_1442 ?_
  refine s_iload 0 rfl dL_law_1443 ?_
  refine s_k3 dL_law_1445 ?_
  refine s_iadd dL_law_1446 ?_
  refine s_sld hX q201 dL_law_1447 ?_
  refine s_aload0 4 rfl dL_law_1448 ?_
  refine s_iload 0 rfl dL_law_1449 ?_
  refine s_k4 dL_law_1451 ?_
  refine s_iadd dL_law_1452 ?_
  refine s_sld hX q202 dL_law_1453 ?_
  refine s_aload0 4 rfl dL_law_1454 ?_
  refine s_iload 0 rfl dL_law_1455 ?_
  refine s_k5 dL_law_1457 ?_
  refine s_iadd dL_law_1458 ?_
  refine s_sld hX q203 dL_law_1459 ?_
  refine s_viI [.inl (sc (v4 + 1).toNatClampNeg), .inl (sc (v4 + 2).toNatClampNeg), .inl (sc (v4 + 3).toNatClampNeg), .inl (sc (v4 + 4).toNatClampNeg), .inl (sc (v4 + 5).toNatClampNeg)] (fun l b hb hl => cf_X12_copy G l (sc (v4 + 1).toNatClampNeg) (sc (v4 + 2).toNatClampNeg) (sc (v4 + 3).toNatClampNeg) (sc (v4 + 4).toNatClampNeg) (sc (v4 + 5).toNatClampNeg) r204.2 b hb hl) me_X12_copy vi_RL_170 rfl rfl rfl rfl rfl dL_law_1460 (fun r205 => ?_)
  refine s_ic_eq (tgt := 1493) dL_law_1463 (by decide) (fun q206 => ?_) (fun q206 => ?_)
  · skip
    refine s_iincw 6 (by decide) 0 [(4, .inl (v4 + 6)), (3, .inr (.inr (98, 0))), (2, .inr (.inr (12, 0))), (1, .inr (.inr (11, 0))), (0, .inr (.inr (99, 0)))] rfl rfl rfl dL_law_1493 ?_
    refine s_goto (tgt := 23) dL_law_1496 (by decide) ?_
    exact s_loc [0, 1, 2, 3, 4] rfl (hkb _ (Or.inl rfl) (v4 + 6) r205.2)
  · skip
    refine s_k0 dL_law_1466 ?_
    exact s_none
set_option maxRecDepth 20000 in
theorem sf_L_1468 {G : mG} {X : mX} {b n k : Nat} {sc : Nat → Int32} {kb : Int32 → mH → Option mH} (hX : lwX G X b n sc (k + 1)) (hkb : lwK G X kb) (v4 : Int32) (h : mH) : lwS G X (f_L_1468 sc n kb v4 h) 1468 [(4, .inl v4), (3, .inr (.inr (98, 0))), (2, .inr (.inr (12, 0))), (1, .inr (.inr (11, 0))), (0, .inr (.inr (99, 0)))] h := by
  unfold f_L_1468
  refine s_aload1 3 rfl dL_law_1468 ?_
  refine s_aload0 4 rfl dL_law_1469 ?_
  refine s_iload 0 rfl dL_law_1470 ?_
  refine s_k1 dL_law_1472 ?_
  refine s_iadd dL_law_1473 ?_
  refine s_chk (fun q208 => ?_)
  refine s_sld hX q208 dL_law_1474 ?_
  refine s_viI [.inl (sc (v4 + 1).toNatClampNeg)] (fun l b hb hl => cf_X11_count G l (sc (v4 + 1).toNatClampNeg) h b hb hl) me_X11_count vi_RL_171 rfl rfl rfl rfl rfl dL_law_1475 (fun r209 => ?_)
  refine s_aload2 2 rfl dL_law_1478 ?_
  refine s_aload0 4 rfl dL_law_1479 ?_
  refine s_iload 0 rfl dL_law_1480 ?_
  refine s_k1 dL_law_1482 ?_
  refine s_iadd dL_law_1483 ?_
  refine s_sld hX q208 dL_law_1484 ?_
  refine s_viI [.inl (sc (v4 + 1).toNatClampNeg)] (fun l b hb hl => cf_X12_count G l (sc (v4 + 1).toNatClampNeg) r209.2 b hb hl) me_X12_count vi_RL_174 rfl rfl rfl rfl rfl dL_law_1485 (fun r210 => ?_)
  refine s_ic_eq (tgt := 1493) dL_law_1488 (by decide) (fun q211 => ?_) (fun q211 => ?_)
  · skip
    refine s_iincw 6 (by decide) 0 [(4, .inl (v4 + 6)), (3, .inr (.inr (98, 0))), (2, .inr (.inr (12, 0))), (1, .inr (.inr (11, 0))), (0, .inr (.inr (99, 0)))] rfl rfl rfl dL_law_1493 ?_
    refine s_goto (tgt := 23) dL_law_1496 (by decide) ?_
    exact s_loc [0, 1, 2, 3, 4] rfl (hkb _ (Or.inl rfl) (v4 + 6) r210.2)
  · skip
    refine s_k0 dL_law_1491 ?_
    exact s_none
set_option maxRecDepth 20000 in
theorem sf_L_23 {G : mG} {X : mX} {b n k : Nat} {sc : Nat → Int32} {kb : Int32 → mH → Option mH} (hX : lwX G X b n sc (k + 1)) (hkb : lwK G X kb) (v4 : Int32) (h : mH) : lwS G X (f_L_23 sc n kb v4 h) 23 [(4, .inl v4), (3, .inr (.inr (98, 0))), (2, .inr (.inr (12, 0))), (1, .inr (.inr (11, 0))), (0, .inr (.inr (99, 0)))] h := by
  unfold f_L_23
  refine s_iload 0 rfl dL_law_23 ?_
  refine s_aload0 4 rfl dL_law_25 ?_
  refine s_slen hX dL_law_26 ?_
  refine s_bip 6 kb_6 dL_law_27 ?_
  refine s_isub dL_law_29 ?_
  refine s_ic_gt (tgt := 1499) dL_law_30 (by decide) (fun q1 => ?_) (fun q1 => ?_)
  · skip
    refine s_k1 dL_law_1499 ?_
    exact s_lawret hX dL_law_1500
  · skip
    refine s_aload0 4 rfl dL_law_33 ?_
    refine s_iload 0 rfl dL_law_34 ?_
    refine s_chk (fun q2 => ?_)
    refine s_sld hX q2 dL_law_36 ?_
    refine s_bip 63 kb_63 dL_law_37 ?_
    refine s_iand dL_law_39 ?_
    refine s_case (fun q3 => ?_) (fun q3 => ?_)
    · skip
      refine s_tabP dL_law_40 0 q3 196 (by decide) (by decide) ?_
      exact s_loc [0, 1, 2, 3, 4] rfl (sf_L_196 hX hkb v4 h)
    refine s_case (fun q8 => ?_) (fun q8 => ?_)
    · skip
      refine s_tabP dL_law_40 1 q8 221 (by decide) (by decide) ?_
      exact s_loc [0, 1, 2, 3, 4] rfl (sf_L_221 hX hkb v4 h)
    refine s_case (fun q17 => ?_) (fun q17 => ?_)
    · skip
      refine s_tabP dL_law_40 2 q17 294 (by decide) (by decide) ?_
      exact s_loc [0, 1, 2, 3, 4] rfl (sf_L_294 hX hkb v4 h)
    refine s_case (fun q23 => ?_) (fun q23 => ?_)
    · skip
      refine s_tabP dL_law_40 3 q23 331 (by decide) (by decide) ?_
      exact s_loc [0, 1, 2, 3, 4] rfl (sf_L_331 hX hkb v4 h)
    refine s_case (fun q29 => ?_) (fun q29 => ?_)
    · skip
      refine s_tabP dL_law_40 4 q29 368 (by decide) (by decide) ?_
      exact s_loc [0, 1, 2, 3, 4] rfl (sf_L_368 hX hkb v4 h)
    refine s_case (fun q37 => ?_) (fun q37 => ?_)
    · skip
      refine s_tabP dL_law_40 5 q37 429 (by decide) (by decide) ?_
      exact s_loc [0, 1, 2, 3, 4] rfl (sf_L_429 hX hkb v4 h)
    refine s_case (fun q41 => ?_) (fun q41 => ?_)
    · skip
      refine s_tabP dL_law_40 6 q41 442 (by decide) (by decide) ?_
      exact s_loc [0, 1, 2, 3, 4] rfl (sf_L_442 hX hkb v4 h)
    refine s_case (fun q50 => ?_) (fun q50 => ?_)
    · skip
      refine s_tabP dL_law_40 7 q50 515 (by decide) (by decide) ?_
      exact s_loc [0, 1, 2, 3, 4] rfl (sf_L_515 hX hkb v4 h)
    refine s_case (fun q55 => ?_) (fun q55 => ?_)
    · skip
      refine s_tabP dL_law_40 8 q55 540 (by decide) (by decide) ?_
      exact s_loc [0, 1, 2, 3, 4] rfl (sf_L_540 hX hkb v4 h)
    refine s_case (fun q61 => ?_) (fun q61 => ?_)
    · skip
      refine s_tabP dL_law_40 9 q61 577 (by decide) (by decide) ?_
      exact s_loc [0, 1, 2, 3, 4] rfl (sf_L_577 hX hkb v4 h)
    refine s_case (fun q66 => ?_) (fun q66 => ?_)
    · skip
      refine s_tabP dL_law_40 10 q66 602 (by decide) (by decide) ?_
      exact s_loc [0, 1, 2, 3, 4] rfl (sf_L_602 hX hkb v4 h)
    refine s_case (fun q71 => ?_) (fun q71 => ?_)
    · skip
      refine s_tabP dL_law_40 11 q71 627 (by decide) (by decide) ?_
      exact s_loc [0, 1, 2, 3, 4] rfl (sf_L_627 hX hkb v4 h)
    refine s_case (fun q78 => ?_) (fun q78 => ?_)
    · skip
      refine s_tabP dL_law_40 12 q78 676 (by decide) (by decide) ?_
      exact s_loc [0, 1, 2, 3, 4] rfl (sf_L_676 hX hkb v4 h)
    refine s_case (fun q84 => ?_) (fun q84 => ?_)
    · skip
      refine s_tabP dL_law_40 13 q84 713 (by decide) (by decide) ?_
      exact s_loc [0, 1, 2, 3, 4] rfl (sf_L_713 hX hkb v4 h)
    refine s_case (fun q88 => ?_) (fun q88 => ?_)
    · skip
      refine s_tabP dL_law_40 14 q88 726 (by decide) (by decide) ?_
      exact s_loc [0, 1, 2, 3, 4] rfl (sf_L_726 hX hkb v4 h)
    refine s_case (fun q95 => ?_) (fun q95 => ?_)
    · skip
      refine s_tabP dL_law_40 15 q95 775 (by decide) (by decide) ?_
      exact s_loc [0, 1, 2, 3, 4] rfl (sf_L_775 hX hkb v4 h)
    refine s_case (fun q100 => ?_) (fun q100 => ?_)
    · skip
      refine s_tabP dL_law_40 16 q100 800 (by decide) (by decide) ?_
      exact s_loc [0, 1, 2, 3, 4] rfl (sf_L_800 hX hkb v4 h)
    refine s_case (fun q105 => ?_) (fun q105 => ?_)
    · skip
      refine s_tabP dL_law_40 17 q105 825 (by decide) (by decide) ?_
      exact s_loc [0, 1, 2, 3, 4] rfl (sf_L_825 hX hkb v4 h)
    refine s_case (fun q111 => ?_) (fun q111 => ?_)
    · skip
      refine s_tabP dL_law_40 18 q111 862 (by decide) (by decide) ?_
      exact s_loc [0, 1, 2, 3, 4] rfl (sf_L_862 hX hkb v4 h)
    refine s_case (fun q116 => ?_) (fun q116 => ?_)
    · skip
      refine s_tabP dL_law_40 19 q116 887 (by decide) (by decide) ?_
      exact s_loc [0, 1, 2, 3, 4] rfl (sf_L_887 hX hkb v4 h)
    refine s_case (fun q122 => ?_) (fun q122 => ?_)
    · skip
      refine s_tabP dL_law_40 20 q122 924 (by decide) (by decide) ?_
      exact s_loc [0, 1, 2, 3, 4] rfl (sf_L_924 hX hkb v4 h)
    refine s_case (fun q127 => ?_) (fun q127 => ?_)
    · skip
      refine s_tabP dL_law_40 21 q127 949 (by decide) (by decide) ?_
      exact s_loc [0, 1, 2, 3, 4] rfl (sf_L_949 hX hkb v4 h)
    refine s_case (fun q131 => ?_) (fun q131 => ?_)
    · skip
      refine s_tabP dL_law_40 22 q131 962 (by decide) (by decide) ?_
      exact s_loc [0, 1, 2, 3, 4] rfl (sf_L_962 hX hkb v4 h)
    refine s_case (fun q136 => ?_) (fun q136 => ?_)
    · skip
      refine s_tabP dL_law_40 23 q136 987 (by decide) (by decide) ?_
      exact s_loc [0, 1, 2, 3, 4] rfl (sf_L_987 hX hkb v4 h)
    refine s_case (fun q142 => ?_) (fun q142 => ?_)
    · skip
      refine s_tabP dL_law_40 24 q142 1024 (by decide) (by decide) ?_
      exact s_loc [0, 1, 2, 3, 4] rfl (sf_L_1024 hX hkb v4 h)
    refine s_case (fun q147 => ?_) (fun q147 => ?_)
    · skip
      refine s_tabP dL_law_40 25 q147 1049 (by decide) (by decide) ?_
      exact s_loc [0, 1, 2, 3, 4] rfl (sf_L_1049 hX hkb v4 h)
    refine s_case (fun q154 => ?_) (fun q154 => ?_)
    · skip
      refine s_tabP dL_law_40 26 q154 1098 (by decide) (by decide) ?_
      exact s_loc [0, 1, 2, 3, 4] rfl (sf_L_1098 hX hkb v4 h)
    refine s_case (fun q159 => ?_) (fun q159 => ?_)
    · skip
      refine s_tabP dL_law_40 27 q159 1123 (by decide) (by decide) ?_
      exact s_loc [0, 1, 2, 3, 4] rfl (sf_L_1123 hX hkb v4 h)
    refine s_case (fun q164 => ?_) (fun q164 => ?_)
    · skip
      refine s_tabP dL_law_40 28 q164 1148 (by decide) (by decide) ?_
      exact s_loc [0, 1, 2, 3, 4] rfl (sf_L_1148 hX hkb v4 h)
    refine s_case (fun q169 => ?_) (fun q169 => ?_)
    · skip
      refine s_tabP dL_law_40 29 q169 1173 (by decide) (by decide) ?_
      exact s_loc [0, 1, 2, 3, 4] rfl (sf_L_1173 hX hkb v4 h)
    refine s_case (fun q176 => ?_) (fun q176 => ?_)
    · skip
      refine s_tabP dL_law_40 30 q176 1222 (by decide) (by decide) ?_
      exact s_loc [0, 1, 2, 3, 4] rfl (sf_L_1222 hX hkb v4 h)
    refine s_case (fun q181 => ?_) (fun q181 => ?_)
    · skip
      refine s_tabP dL_law_40 31 q181 1247 (by decide) (by decide) ?_
      exact s_loc [0, 1, 2, 3, 4] rfl (sf_L_1247 hX hkb v4 h)
    refine s_case (fun q189 => ?_) (fun q189 => ?_)
    · skip
      refine s_tabP dL_law_40 32 q189 1328 (by decide) (by decide) ?_
      exact s_loc [0, 1, 2, 3, 4] rfl (sf_L_1328 hX hkb v4 h)
    refine s_case (fun q198 => ?_) (fun q198 => ?_)
    · skip
      refine s_tabP dL_law_40 33 q198 1395 (by decide) (by decide) ?_
      exact s_loc [0, 1, 2, 3, 4] rfl (sf_L_1395 hX hkb v4 h)
    refine s_case (fun q207 => ?_) (fun q207 => ?_)
    · skip
      refine s_tabP dL_law_40 34 q207 1468 (by decide) (by decide) ?_
      exact s_loc [0, 1, 2, 3, 4] rfl (sf_L_1468 hX hkb v4 h)
    refine s_tabD dL_law_40 [0, 1, 2, 3, 4, 5, 6, 7, 8, 9, 10, 11, 12, 13, 14, 15, 16, 17, 18, 19, 20, 21, 22, 23, 24, 25, 26, 27, 28, 29, 30, 31, 32, 33, 34] (by refine List.forall_mem_cons.mpr ⟨q3, ?_⟩; refine List.forall_mem_cons.mpr ⟨q8, ?_⟩; refine List.forall_mem_cons.mpr ⟨q17, ?_⟩; refine List.forall_mem_cons.mpr ⟨q23, ?_⟩; refine List.forall_mem_cons.mpr ⟨q29, ?_⟩; refine List.forall_mem_cons.mpr ⟨q37, ?_⟩; refine List.forall_mem_cons.mpr ⟨q41, ?_⟩; refine List.forall_mem_cons.mpr ⟨q50, ?_⟩; refine List.forall_mem_cons.mpr ⟨q55, ?_⟩; refine List.forall_mem_cons.mpr ⟨q61, ?_⟩; refine List.forall_mem_cons.mpr ⟨q66, ?_⟩; refine List.forall_mem_cons.mpr ⟨q71, ?_⟩; refine List.forall_mem_cons.mpr ⟨q78, ?_⟩; refine List.forall_mem_cons.mpr ⟨q84, ?_⟩; refine List.forall_mem_cons.mpr ⟨q88, ?_⟩; refine List.forall_mem_cons.mpr ⟨q95, ?_⟩; refine List.forall_mem_cons.mpr ⟨q100, ?_⟩; refine List.forall_mem_cons.mpr ⟨q105, ?_⟩; refine List.forall_mem_cons.mpr ⟨q111, ?_⟩; refine List.forall_mem_cons.mpr ⟨q116, ?_⟩; refine List.forall_mem_cons.mpr ⟨q122, ?_⟩; refine List.forall_mem_cons.mpr ⟨q127, ?_⟩; refine List.forall_mem_cons.mpr ⟨q131, ?_⟩; refine List.forall_mem_cons.mpr ⟨q136, ?_⟩; refine List.forall_mem_cons.mpr ⟨q142, ?_⟩; refine List.forall_mem_cons.mpr ⟨q147, ?_⟩; refine List.forall_mem_cons.mpr ⟨q154, ?_⟩; refine List.forall_mem_cons.mpr ⟨q159, ?_⟩; refine List.forall_mem_cons.mpr ⟨q164, ?_⟩; refine List.forall_mem_cons.mpr ⟨q169, ?_⟩; refine List.forall_mem_cons.mpr ⟨q176, ?_⟩; refine List.forall_mem_cons.mpr ⟨q181, ?_⟩; refine List.forall_mem_cons.mpr ⟨q189, ?_⟩; refine List.forall_mem_cons.mpr ⟨q198, ?_⟩; refine List.forall_mem_cons.mpr ⟨q207, ?_⟩; exact fun _ z => absurd z List.not_mem_nil) (by decide) (by decide) 1493 (by decide) ?_
    · skip
      refine s_iincw 6 (by decide) 0 [(4, .inl (v4 + 6)), (3, .inr (.inr (98, 0))), (2, .inr (.inr (12, 0))), (1, .inr (.inr (11, 0))), (0, .inr (.inr (99, 0)))] rfl rfl rfl dL_law_1493 ?_
      refine s_goto (tgt := 23) dL_law_1496 (by decide) ?_
      exact s_loc [0, 1, 2, 3, 4] rfl (hkb _ (Or.inl rfl) (v4 + 6) h)
