-- DriverBookModel.groups(III)V
def f_X12_groups_30 (k : Int32 → Int32 → Int32 → Int32 → Int32 → Int32 → Int32 → Int32 → mH → Option (mH))  : Nat → Int32 → Int32 → Int32 → Int32 → Int32 → Int32 → Int32 → Int32 → mH → Option (mH)
  | 0, _, _, _, _, _, _, _, _, _ => none
  | n + 1, v1, v2, v3, v4, v5, v6, v7, v8, h =>
    if v8 < v3 then
      if mIn v8 72 = true then
      if mIn (h.1 60 0 v8.toNatClampNeg) 24 = true then
      f_X12_groups_30 k  n v1 v2 v3 v4 v5 (v6 ||| ((h.1 61 0 v8.toNatClampNeg) <<< ((h.1 47 0 (h.1 60 0 v8.toNatClampNeg).toNatClampNeg) &&& 31))) v7 (v8 + 1) h
      else none
      else none
    else
      k v1 v2 v3 v4 v5 v6 v7 v8 h
def f_X12_groups_127 (k : Int32 → Int32 → Int32 → Int32 → Int32 → Int32 → Int32 → Int32 → Int32 → Int32 → mH → Option (mH))  : Nat → Int32 → Int32 → Int32 → Int32 → Int32 → Int32 → Int32 → Int32 → Int32 → Int32 → mH → Option (mH)
  | 0, _, _, _, _, _, _, _, _, _, _, _ => none
  | n + 1, v1, v2, v3, v4, v5, v6, v7, v8, v9, v10, h =>
    if v10 < v3 then
      if v9 = 0 then
        f_X12_groups_127 k  n v1 v2 v3 v4 v5 v6 v7 v8 0 (v10 + 1) h
      else
        if mIn v10 72 = true then
        if (h.1 60 0 v10.toNatClampNeg) = v8 then
          f_X12_groups_127 k  n v1 v2 v3 v4 v5 v6 v7 v8 0 (v10 + 1) h
        else
          f_X12_groups_127 k  n v1 v2 v3 v4 v5 v6 v7 v8 1 (v10 + 1) h
        else none
    else
      k v1 v2 v3 v4 v5 v6 v7 v8 v9 v10 h
def f_X12_groups_70 (k : Int32 → Int32 → Int32 → Int32 → Int32 → Int32 → Int32 → Int32 → mH → Option (mH))  : Nat → Int32 → Int32 → Int32 → Int32 → Int32 → Int32 → Int32 → Int32 → mH → Option (mH)
  | 0, _, _, _, _, _, _, _, _, _ => none
  | n + 1, v1, v2, v3, v4, v5, v6, v7, v8, h =>
    if v8 < (h.1 12 0 2) then
      if mIn v8 24 = true then
      if (h.1 46 0 v8.toNatClampNeg) = v4 then
        if (h.1 49 0 v8.toNatClampNeg) = 0 then
          f_X12_groups_127 (fun u37 u38 u39 u40 u41 u42 u43 u44 u45 u46 h47 =>
            if u45 = 0 then
              f_X12_groups_70 k  n u37 u38 u39 u40 u41 u42 (u43 ||| 0) (u44 + 1) h47
            else
              (f_X12_mask u44 h47).bind fun r49 =>
              f_X12_groups_70 k  n u37 u38 u39 u40 u41 u42 (u43 ||| r49.1) (u44 + 1) r49.2)  mFu v1 v2 v3 v4 v5 v6 v7 v8 1 v2 h
        else
          if (h.1 49 0 v8.toNatClampNeg) = 5 then
            if v5 = 0 then
              f_X12_groups_127 (fun u65 u66 u67 u68 u69 u70 u71 u72 u73 u74 h75 =>
                if u73 = 0 then
                  f_X12_groups_70 k  n u65 u66 u67 u68 u69 u70 (u71 ||| 0) (u72 + 1) h75
                else
                  (f_X12_mask u72 h75).bind fun r77 =>
                  f_X12_groups_70 k  n u65 u66 u67 u68 u69 u70 (u71 ||| r77.1) (u72 + 1) r77.2)  mFu v1 v2 v3 v4 v5 v6 v7 v8 0 v2 h
            else
              f_X12_groups_127 (fun u78 u79 u80 u81 u82 u83 u84 u85 u86 u87 h88 =>
                if u86 = 0 then
                  f_X12_groups_70 k  n u78 u79 u80 u81 u82 u83 (u84 ||| 0) (u85 + 1) h88
                else
                  (f_X12_mask u85 h88).bind fun r90 =>
                  f_X12_groups_70 k  n u78 u79 u80 u81 u82 u83 (u84 ||| r90.1) (u85 + 1) r90.2)  mFu v1 v2 v3 v4 v5 v6 v7 v8 1 v2 h
          else
            f_X12_groups_127 (fun u51 u52 u53 u54 u55 u56 u57 u58 u59 u60 h61 =>
              if u59 = 0 then
                f_X12_groups_70 k  n u51 u52 u53 u54 u55 u56 (u57 ||| 0) (u58 + 1) h61
              else
                (f_X12_mask u58 h61).bind fun r63 =>
                f_X12_groups_70 k  n u51 u52 u53 u54 u55 u56 (u57 ||| r63.1) (u58 + 1) r63.2)  mFu v1 v2 v3 v4 v5 v6 v7 v8 0 v2 h
      else
        f_X12_groups_127 (fun u23 u24 u25 u26 u27 u28 u29 u30 u31 u32 h33 =>
          if u31 = 0 then
            f_X12_groups_70 k  n u23 u24 u25 u26 u27 u28 (u29 ||| 0) (u30 + 1) h33
          else
            (f_X12_mask u30 h33).bind fun r35 =>
            f_X12_groups_70 k  n u23 u24 u25 u26 u27 u28 (u29 ||| r35.1) (u30 + 1) r35.2)  mFu v1 v2 v3 v4 v5 v6 v7 v8 0 v2 h
      else none
    else
      k v1 v2 v3 v4 v5 v6 v7 v8 h
def f_X12_groups_j267 (w1 : Int32) (w4 : Int32) (w6 : Int32) (w7 : Int32) (w8 : Int32) (h : mH) : Option (mH) :=
  (f_X12_emit w1 0 w4 (-2) (-2) (-2) (-2) h).bind fun r104 =>
  (f_X12_emit w1 1 w4 1 w7 w6 (-2) r104).bind fun r105 =>
  if w8 = 0 then
    some r105
  else
    (f_X12_emit w1 6 (-2) (-2) (-2) (-2) (-2) r105).bind fun r107 =>
    some r107
def f_X12_groups_j243 (w1 : Int32) (w4 : Int32) (w6 : Int32) (w7 : Int32) (h : mH) : Option (mH) :=
  f_X12_groups_j267 w1 w4 w6 w7 0 h
def f_X12_groups (x1 : Int32) (x2 : Int32) (x3 : Int32) (h : mH) : Option (mH) :=
  if mIn x2 72 = true then
  if mIn (h.1 60 0 x2.toNatClampNeg) 24 = true then
  (f_X12_isShadowed (h.1 46 0 (h.1 60 0 x2.toNatClampNeg).toNatClampNeg) h).bind fun r3 =>
  f_X12_groups_30 (fun u7 u8 u9 u10 u11 u12 u13 u14 h15 =>
    f_X12_groups_70 (fun u91 u92 u93 u94 u95 u96 u97 u98 h99 =>
      if u97 = 0 then
        (f_X12_emit u91 1 u94 0 u97 u96 (-2) h99).bind fun r101 =>
        some r101
      else
        if u95 = 0 then
          if (h99.1 12 0 22) = 1 then
            (f_X12_hasHandler  h99).bind fun r108 =>
            if r108.1 = 0 then
              f_X12_groups_j243 u91 u94 u96 u97 r108.2
            else
              (f_X12_emit u91 5 (-2) (-2) (-2) (-2) (-2) r108.2).bind fun r110 =>
              f_X12_groups_j267 u91 u94 u96 u97 1 r110
          else
            f_X12_groups_j243 u91 u94 u96 u97 h99
        else
          (f_X12_emit u91 1 u94 2 u97 u96 (-2) h99).bind fun r111 =>
          some r111)  mFu u7 u8 u9 u10 u11 u12 u13 0 h15)  mFu x1 x2 x3 (h.1 46 0 (h.1 60 0 x2.toNatClampNeg).toNatClampNeg) r3.1 0 0 x2 r3.2
  else none
  else none
set_option maxRecDepth 20000 in
theorem sf_X12_groups_30 (G : mG) (X : mX)   (k : Int32 → Int32 → Int32 → Int32 → Int32 → Int32 → Int32 → Int32 → mH → Option (mH)) (hk : ∀ (v1 : Int32) (v2 : Int32) (v3 : Int32) (v4 : Int32) (v5 : Int32) (v6 : Int32) (v7 : Int32) (v8 : Int32) (h : mH), Sim G X cX12_groups 11 RX12 none (mRoom 2 42) eV (k v1 v2 v3 v4 v5 v6 v7 v8 h) 67 [(0, .inr (.inr (12, 0))), (1, .inl v1), (2, .inl v2), (3, .inl v3), (4, .inl v4), (5, .inl v5), (6, .inl v6), (7, .inl v7), (8, .inl v8)] [] h) (n : Nat) : ∀ (v1 : Int32) (v2 : Int32) (v3 : Int32) (v4 : Int32) (v5 : Int32) (v6 : Int32) (v7 : Int32) (v8 : Int32) (h : mH), Sim G X cX12_groups 11 RX12 none (mRoom 2 42) eV (f_X12_groups_30 k  n v1 v2 v3 v4 v5 v6 v7 v8 h) 30 [(0, .inr (.inr (12, 0))), (1, .inl v1), (2, .inl v2), (3, .inl v3), (4, .inl v4), (5, .inl v5), (6, .inl v6), (7, .inl v7), (8, .inl v8)] [] h := by
  induction n with
  | zero =>
    intro v1 v2 v3 v4 v5 v6 v7 v8 h
    exact s_none
  | succ n ih =>
    intro v1 v2 v3 v4 v5 v6 v7 v8 h
    unfold f_X12_groups_30
    refine s_iload 8 rfl dX12_groups_30 ?_
    refine s_iload3 3 rfl dX12_groups_32 ?_
    refine s_ic_ge (tgt := 67) dX12_groups_33 (by decide) (fun q4 => ?_) (fun q4 => ?_)
    · skip
      exact s_loc [0, 1, 2, 3, 4, 5, 6, 7, 8] rfl (hk v1 v2 v3 v4 v5 v6 v7 v8 h)
    · skip
      refine s_iload 6 rfl dX12_groups_36 ?_
      refine s_aload0 0 rfl dX12_groups_38 ?_
      refine s_gr (gR_RX12_59 0) dX12_groups_39 ?_
      refine s_iload 8 rfl dX12_groups_42 ?_
      refine s_chk (fun q5 => ?_)
      refine s_ial aT_61 q5 dX12_groups_44 ?_
      refine s_aload0 0 rfl dX12_groups_45 ?_
      refine s_gr (gR_RX12_17 0) dX12_groups_46 ?_
      refine s_aload0 0 rfl dX12_groups_49 ?_
      refine s_gr (gR_RX12_56 0) dX12_groups_50 ?_
      refine s_iload 8 rfl dX12_groups_53 ?_
      refine s_ial aT_60 q5 dX12_groups_55 ?_
      refine s_chk (fun q6 => ?_)
      refine s_ial aT_47 q6 dX12_groups_56 ?_
      refine s_ishl dX12_groups_57 ?_
      refine s_ior dX12_groups_58 ?_
      refine s_istorew [(6, .inl (v6 ||| ((h.1 61 0 v8.toNatClampNeg) <<< ((h.1 47 0 (h.1 60 0 v8.toNatClampNeg).toNatClampNeg) &&& 31)))), (0, .inr (.inr (12, 0))), (1, .inl v1), (2, .inl v2), (3, .inl v3), (4, .inl v4), (5, .inl v5), (7, .inl v7), (8, .inl v8)] rfl rfl dX12_groups_59 ?_
      refine s_iincw 1 (by decide) 8 [(8, .inl (v8 + 1)), (6, .inl (v6 ||| ((h.1 61 0 v8.toNatClampNeg) <<< ((h.1 47 0 (h.1 60 0 v8.toNatClampNeg).toNatClampNeg) &&& 31)))), (0, .inr (.inr (12, 0))), (1, .inl v1), (2, .inl v2), (3, .inl v3), (4, .inl v4), (5, .inl v5), (7, .inl v7)] rfl rfl rfl dX12_groups_61 ?_
      refine s_goto (tgt := 30) dX12_groups_64 (by decide) ?_
      exact s_loc [2, 3, 4, 5, 6, 7, 1, 8, 0] rfl (ih v1 v2 v3 v4 v5 (v6 ||| ((h.1 61 0 v8.toNatClampNeg) <<< ((h.1 47 0 (h.1 60 0 v8.toNatClampNeg).toNatClampNeg) &&& 31))) v7 (v8 + 1) h)
set_option maxRecDepth 20000 in
theorem sf_X12_groups_127 (G : mG) (X : mX)   (k : Int32 → Int32 → Int32 → Int32 → Int32 → Int32 → Int32 → Int32 → Int32 → Int32 → mH → Option (mH)) (hk : ∀ (v1 : Int32) (v2 : Int32) (v3 : Int32) (v4 : Int32) (v5 : Int32) (v6 : Int32) (v7 : Int32) (v8 : Int32) (v9 : Int32) (v10 : Int32) (h : mH), Sim G X cX12_groups 11 RX12 none (mRoom 2 42) eV (k v1 v2 v3 v4 v5 v6 v7 v8 v9 v10 h) 163 [(0, .inr (.inr (12, 0))), (1, .inl v1), (2, .inl v2), (3, .inl v3), (4, .inl v4), (5, .inl v5), (6, .inl v6), (7, .inl v7), (8, .inl v8), (9, .inl v9), (10, .inl v10)] [] h) (n : Nat) : ∀ (v1 : Int32) (v2 : Int32) (v3 : Int32) (v4 : Int32) (v5 : Int32) (v6 : Int32) (v7 : Int32) (v8 : Int32) (v9 : Int32) (v10 : Int32) (h : mH), Sim G X cX12_groups 11 RX12 none (mRoom 2 42) eV (f_X12_groups_127 k  n v1 v2 v3 v4 v5 v6 v7 v8 v9 v10 h) 127 [(0, .inr (.inr (12, 0))), (1, .inl v1), (2, .inl v2), (3, .inl v3), (4, .inl v4), (5, .inl v5), (6, .inl v6), (7, .inl v7), (8, .inl v8), (9, .inl v9), (10, .inl v10)] [] h := by
  induction n with
  | zero =>
    intro v1 v2 v3 v4 v5 v6 v7 v8 v9 v10 h
    exact s_none
  | succ n ih =>
    intro v1 v2 v3 v4 v5 v6 v7 v8 v9 v10 h
    unfold f_X12_groups_127
    refine s_iload 10 rfl dX12_groups_127 ?_
    refine s_iload3 3 rfl dX12_groups_129 ?_
    refine s_ic_ge (tgt := 163) dX12_groups_130 (by decide) (fun q19 => ?_) (fun q19 => ?_)
    · skip
      exact s_loc [0, 1, 2, 3, 4, 5, 6, 7, 8, 9, 10] rfl (hk v1 v2 v3 v4 v5 v6 v7 v8 v9 v10 h)
    · skip
      refine s_iload 9 rfl dX12_groups_133 ?_
      refine s_if_eq (tgt := 154) dX12_groups_135 (by decide) (fun q20 => ?_) (fun q20 => ?_)
      · skip
        refine s_k0 dX12_groups_154 ?_
        refine s_istorew [(9, .inl 0), (0, .inr (.inr (12, 0))), (1, .inl v1), (2, .inl v2), (3, .inl v3), (4, .inl v4), (5, .inl v5), (6, .inl v6), (7, .inl v7), (8, .inl v8), (10, .inl v10)] rfl rfl dX12_groups_155 ?_
        refine s_iincw 1 (by decide) 10 [(10, .inl (v10 + 1)), (9, .inl 0), (0, .inr (.inr (12, 0))), (1, .inl v1), (2, .inl v2), (3, .inl v3), (4, .inl v4), (5, .inl v5), (6, .inl v6), (7, .inl v7), (8, .inl v8)] rfl rfl rfl dX12_groups_157 ?_
        refine s_goto (tgt := 127) dX12_groups_160 (by decide) ?_
        exact s_loc [2, 3, 4, 5, 6, 7, 8, 9, 10, 1, 0] rfl (ih v1 v2 v3 v4 v5 v6 v7 v8 0 (v10 + 1) h)
      · skip
        refine s_aload0 0 rfl dX12_groups_138 ?_
        refine s_gr (gR_RX12_56 0) dX12_groups_139 ?_
        refine s_iload 10 rfl dX12_groups_142 ?_
        refine s_chk (fun q21 => ?_)
        refine s_ial aT_60 q21 dX12_groups_144 ?_
        refine s_iload 8 rfl dX12_groups_145 ?_
        refine s_ic_eq (tgt := 154) dX12_groups_147 (by decide) (fun q22 => ?_) (fun q22 => ?_)
        · skip
          refine s_k0 dX12_groups_154 ?_
          refine s_istorew [(9, .inl 0), (0, .inr (.inr (12, 0))), (1, .inl v1), (2, .inl v2), (3, .inl v3), (4, .inl v4), (5, .inl v5), (6, .inl v6), (7, .inl v7), (8, .inl v8), (10, .inl v10)] rfl rfl dX12_groups_155 ?_
          refine s_iincw 1 (by decide) 10 [(10, .inl (v10 + 1)), (9, .inl 0), (0, .inr (.inr (12, 0))), (1, .inl v1), (2, .inl v2), (3, .inl v3), (4, .inl v4), (5, .inl v5), (6, .inl v6), (7, .inl v7), (8, .inl v8)] rfl rfl rfl dX12_groups_157 ?_
          refine s_goto (tgt := 127) dX12_groups_160 (by decide) ?_
          exact s_loc [2, 3, 4, 5, 6, 7, 8, 9, 10, 1, 0] rfl (ih v1 v2 v3 v4 v5 v6 v7 v8 0 (v10 + 1) h)
        · skip
          refine s_k1 dX12_groups_150 ?_
          refine s_goto (tgt := 155) dX12_groups_151 (by decide) ?_
          refine s_istorew [(9, .inl 1), (0, .inr (.inr (12, 0))), (1, .inl v1), (2, .inl v2), (3, .inl v3), (4, .inl v4), (5, .inl v5), (6, .inl v6), (7, .inl v7), (8, .inl v8), (10, .inl v10)] rfl rfl dX12_groups_155 ?_
          refine s_iincw 1 (by decide) 10 [(10, .inl (v10 + 1)), (9, .inl 1), (0, .inr (.inr (12, 0))), (1, .inl v1), (2, .inl v2), (3, .inl v3), (4, .inl v4), (5, .inl v5), (6, .inl v6), (7, .inl v7), (8, .inl v8)] rfl rfl rfl dX12_groups_157 ?_
          refine s_goto (tgt := 127) dX12_groups_160 (by decide) ?_
          exact s_loc [2, 3, 4, 5, 6, 7, 8, 9, 10, 1, 0] rfl (ih v1 v2 v3 v4 v5 v6 v7 v8 1 (v10 + 1) h)
set_option maxRecDepth 20000 in
theorem sf_X12_groups_70 (G : mG) (X : mX)   (k : Int32 → Int32 → Int32 → Int32 → Int32 → Int32 → Int32 → Int32 → mH → Option (mH)) (hk : ∀ (v1 : Int32) (v2 : Int32) (v3 : Int32) (v4 : Int32) (v5 : Int32) (v6 : Int32) (v7 : Int32) (v8 : Int32) (h : mH), Sim G X cX12_groups 11 RX12 none (mRoom 2 42) eV (k v1 v2 v3 v4 v5 v6 v7 v8 h) 189 [(0, .inr (.inr (12, 0))), (1, .inl v1), (2, .inl v2), (3, .inl v3), (4, .inl v4), (5, .inl v5), (6, .inl v6), (7, .inl v7), (8, .inl v8)] [] h) (n : Nat) : ∀ (v1 : Int32) (v2 : Int32) (v3 : Int32) (v4 : Int32) (v5 : Int32) (v6 : Int32) (v7 : Int32) (v8 : Int32) (h : mH), Sim G X cX12_groups 11 RX12 none (mRoom 2 42) eV (f_X12_groups_70 k  n v1 v2 v3 v4 v5 v6 v7 v8 h) 70 [(0, .inr (.inr (12, 0))), (1, .inl v1), (2, .inl v2), (3, .inl v3), (4, .inl v4), (5, .inl v5), (6, .inl v6), (7, .inl v7), (8, .inl v8)] [] h := by
  induction n with
  | zero =>
    intro v1 v2 v3 v4 v5 v6 v7 v8 h
    exact s_none
  | succ n ih =>
    intro v1 v2 v3 v4 v5 v6 v7 v8 h
    unfold f_X12_groups_70
    refine s_iload 8 rfl dX12_groups_70 ?_
    refine s_aload0 0 rfl dX12_groups_72 ?_
    refine s_gi gI_RX12_181 dX12_groups_73 ?_
    refine s_ic_ge (tgt := 189) dX12_groups_76 (by decide) (fun q16 => ?_) (fun q16 => ?_)
    · skip
      exact s_loc [0, 1, 2, 3, 4, 5, 6, 7, 8] rfl (hk v1 v2 v3 v4 v5 v6 v7 v8 h)
    · skip
      refine s_aload0 0 rfl dX12_groups_79 ?_
      refine s_gr (gR_RX12_13 0) dX12_groups_80 ?_
      refine s_iload 8 rfl dX12_groups_83 ?_
      refine s_chk (fun q17 => ?_)
      refine s_ial aT_46 q17 dX12_groups_85 ?_
      refine s_iload 4 rfl dX12_groups_86 ?_
      refine s_ic_ne (tgt := 121) dX12_groups_88 (by decide) (fun q18 => ?_) (fun q18 => ?_)
      · skip
        refine s_k0 dX12_groups_121 ?_
        refine s_istorew [(9, .inl 0), (0, .inr (.inr (12, 0))), (1, .inl v1), (2, .inl v2), (3, .inl v3), (4, .inl v4), (5, .inl v5), (6, .inl v6), (7, .inl v7), (8, .inl v8)] rfl rfl dX12_groups_122 ?_
        refine s_iload2 3 rfl dX12_groups_124 ?_
        refine s_istorew [(10, .inl v2), (9, .inl 0), (0, .inr (.inr (12, 0))), (1, .inl v1), (2, .inl v2), (3, .inl v3), (4, .inl v4), (5, .inl v5), (6, .inl v6), (7, .inl v7), (8, .inl v8)] rfl rfl dX12_groups_125 ?_
        refine s_loc [2, 3, 4, 5, 6, 7, 8, 9, 10, 1, 0] rfl ?_
        refine sf_X12_groups_127 G X  _ (fun u23 u24 u25 u26 u27 u28 u29 u30 u31 u32 h33 => ?_) mFu v1 v2 v3 v4 v5 v6 v7 v8 0 v2 h
        · skip
          refine s_iload 7 rfl dX12_groups_163 ?_
          refine s_iload 9 rfl dX12_groups_165 ?_
          refine s_if_eq (tgt := 179) dX12_groups_167 (by decide) (fun q34 => ?_) (fun q34 => ?_)
          · skip
            refine s_k0 dX12_groups_179 ?_
            refine s_ior dX12_groups_180 ?_
            refine s_istorew [(7, .inl (u29 ||| 0)), (0, .inr (.inr (12, 0))), (1, .inl u23), (2, .inl u24), (3, .inl u25), (4, .inl u26), (5, .inl u27), (6, .inl u28), (8, .inl u30), (9, .inl u31), (10, .inl u32)] rfl rfl dX12_groups_181 ?_
            refine s_iincw 1 (by decide) 8 [(8, .inl (u30 + 1)), (7, .inl (u29 ||| 0)), (0, .inr (.inr (12, 0))), (1, .inl u23), (2, .inl u24), (3, .inl u25), (4, .inl u26), (5, .inl u27), (6, .inl u28), (9, .inl u31), (10, .inl u32)] rfl rfl rfl dX12_groups_183 ?_
            refine s_goto (tgt := 70) dX12_groups_186 (by decide) ?_
            exact s_loc [2, 3, 4, 5, 6, 7, 8, 1, 0] rfl (ih u23 u24 u25 u26 u27 u28 (u29 ||| 0) (u30 + 1) h33)
          · skip
            refine s_aload0 0 rfl dX12_groups_170 ?_
            refine s_iload 8 rfl dX12_groups_171 ?_
            refine s_viI [.inl u30] (fun l b hb hl => cf_X12_mask G l u30 h33 b hb hl) me_X12_mask vi_RX12_235 rfl rfl rfl rfl rfl dX12_groups_173 (fun r35 => ?_)
            refine s_goto (tgt := 180) dX12_groups_176 (by decide) ?_
            refine s_ior dX12_groups_180 ?_
            refine s_istorew [(7, .inl (u29 ||| r35.1)), (0, .inr (.inr (12, 0))), (1, .inl u23), (2, .inl u24), (3, .inl u25), (4, .inl u26), (5, .inl u27), (6, .inl u28), (8, .inl u30), (9, .inl u31), (10, .inl u32)] rfl rfl dX12_groups_181 ?_
            refine s_iincw 1 (by decide) 8 [(8, .inl (u30 + 1)), (7, .inl (u29 ||| r35.1)), (0, .inr (.inr (12, 0))), (1, .inl u23), (2, .inl u24), (3, .inl u25), (4, .inl u26), (5, .inl u27), (6, .inl u28), (9, .inl u31), (10, .inl u32)] rfl rfl rfl dX12_groups_183 ?_
            refine s_goto (tgt := 70) dX12_groups_186 (by decide) ?_
            exact s_loc [2, 3, 4, 5, 6, 7, 8, 1, 0] rfl (ih u23 u24 u25 u26 u27 u28 (u29 ||| r35.1) (u30 + 1) r35.2)
      · skip
        refine s_aload0 0 rfl dX12_groups_91 ?_
        refine s_gr (gR_RX12_23 0) dX12_groups_92 ?_
        refine s_iload 8 rfl dX12_groups_95 ?_
        refine s_ial aT_49 q17 dX12_groups_97 ?_
        refine s_if_eq (tgt := 117) dX12_groups_98 (by decide) (fun q36 => ?_) (fun q36 => ?_)
        · skip
          refine s_k1 dX12_groups_117 ?_
          refine s_goto (tgt := 122) dX12_groups_118 (by decide) ?_
          refine s_istorew [(9, .inl 1), (0, .inr (.inr (12, 0))), (1, .inl v1), (2, .inl v2), (3, .inl v3), (4, .inl v4), (5, .inl v5), (6, .inl v6), (7, .inl v7), (8, .inl v8)] rfl rfl dX12_groups_122 ?_
          refine s_iload2 3 rfl dX12_groups_124 ?_
          refine s_istorew [(10, .inl v2), (9, .inl 1), (0, .inr (.inr (12, 0))), (1, .inl v1), (2, .inl v2), (3, .inl v3), (4, .inl v4), (5, .inl v5), (6, .inl v6), (7, .inl v7), (8, .inl v8)] rfl rfl dX12_groups_125 ?_
          refine s_loc [2, 3, 4, 5, 6, 7, 8, 9, 10, 1, 0] rfl ?_
          refine sf_X12_groups_127 G X  _ (fun u37 u38 u39 u40 u41 u42 u43 u44 u45 u46 h47 => ?_) mFu v1 v2 v3 v4 v5 v6 v7 v8 1 v2 h
          · skip
            refine s_iload 7 rfl dX12_groups_163 ?_
            refine s_iload 9 rfl dX12_groups_165 ?_
            refine s_if_eq (tgt := 179) dX12_groups_167 (by decide) (fun q48 => ?_) (fun q48 => ?_)
            · skip
              refine s_k0 dX12_groups_179 ?_
              refine s_ior dX12_groups_180 ?_
              refine s_istorew [(7, .inl (u43 ||| 0)), (0, .inr (.inr (12, 0))), (1, .inl u37), (2, .inl u38), (3, .inl u39), (4, .inl u40), (5, .inl u41), (6, .inl u42), (8, .inl u44), (9, .inl u45), (10, .inl u46)] rfl rfl dX12_groups_181 ?_
              refine s_iincw 1 (by decide) 8 [(8, .inl (u44 + 1)), (7, .inl (u43 ||| 0)), (0, .inr (.inr (12, 0))), (1, .inl u37), (2, .inl u38), (3, .inl u39), (4, .inl u40), (5, .inl u41), (6, .inl u42), (9, .inl u45), (10, .inl u46)] rfl rfl rfl dX12_groups_183 ?_
              refine s_goto (tgt := 70) dX12_groups_186 (by decide) ?_
              exact s_loc [2, 3, 4, 5, 6, 7, 8, 1, 0] rfl (ih u37 u38 u39 u40 u41 u42 (u43 ||| 0) (u44 + 1) h47)
            · skip
              refine s_aload0 0 rfl dX12_groups_170 ?_
              refine s_iload 8 rfl dX12_groups_171 ?_
              refine s_viI [.inl u44] (fun l b hb hl => cf_X12_mask G l u44 h47 b hb hl) me_X12_mask vi_RX12_235 rfl rfl rfl rfl rfl dX12_groups_173 (fun r49 => ?_)
              refine s_goto (tgt := 180) dX12_groups_176 (by decide) ?_
              refine s_ior dX12_groups_180 ?_
              refine s_istorew [(7, .inl (u43 ||| r49.1)), (0, .inr (.inr (12, 0))), (1, .inl u37), (2, .inl u38), (3, .inl u39), (4, .inl u40), (5, .inl u41), (6, .inl u42), (8, .inl u44), (9, .inl u45), (10, .inl u46)] rfl rfl dX12_groups_181 ?_
              refine s_iincw 1 (by decide) 8 [(8, .inl (u44 + 1)), (7, .inl (u43 ||| r49.1)), (0, .inr (.inr (12, 0))), (1, .inl u37), (2, .inl u38), (3, .inl u39), (4, .inl u40), (5, .inl u41), (6, .inl u42), (9, .inl u45), (10, .inl u46)] rfl rfl rfl dX12_groups_183 ?_
              refine s_goto (tgt := 70) dX12_groups_186 (by decide) ?_
              exact s_loc [2, 3, 4, 5, 6, 7, 8, 1, 0] rfl (ih u37 u38 u39 u40 u41 u42 (u43 ||| r49.1) (u44 + 1) r49.2)
        · skip
          refine s_aload0 0 rfl dX12_groups_101 ?_
          refine s_gr (gR_RX12_23 0) dX12_groups_102 ?_
          refine s_iload 8 rfl dX12_groups_105 ?_
          refine s_ial aT_49 q17 dX12_groups_107 ?_
          refine s_k5 dX12_groups_108 ?_
          refine s_ic_ne (tgt := 121) dX12_groups_109 (by decide) (fun q50 => ?_) (fun q50 => ?_)
          · skip
            refine s_k0 dX12_groups_121 ?_
            refine s_istorew [(9, .inl 0), (0, .inr (.inr (12, 0))), (1, .inl v1), (2, .inl v2), (3, .inl v3), (4, .inl v4), (5, .inl v5), (6, .inl v6), (7, .inl v7), (8, .inl v8)] rfl rfl dX12_groups_122 ?_
            refine s_iload2 3 rfl dX12_groups_124 ?_
            refine s_istorew [(10, .inl v2), (9, .inl 0), (0, .inr (.inr (12, 0))), (1, .inl v1), (2, .inl v2), (3, .inl v3), (4, .inl v4), (5, .inl v5), (6, .inl v6), (7, .inl v7), (8, .inl v8)] rfl rfl dX12_groups_125 ?_
            refine s_loc [2, 3, 4, 5, 6, 7, 8, 9, 10, 1, 0] rfl ?_
            refine sf_X12_groups_127 G X  _ (fun u51 u52 u53 u54 u55 u56 u57 u58 u59 u60 h61 => ?_) mFu v1 v2 v3 v4 v5 v6 v7 v8 0 v2 h
            · skip
              refine s_iload 7 rfl dX12_groups_163 ?_
              refine s_iload 9 rfl dX12_groups_165 ?_
              refine s_if_eq (tgt := 179) dX12_groups_167 (by decide) (fun q62 => ?_) (fun q62 => ?_)
              · skip
                refine s_k0 dX12_groups_179 ?_
                refine s_ior dX12_groups_180 ?_
                refine s_istorew [(7, .inl (u57 ||| 0)), (0, .inr (.inr (12, 0))), (1, .inl u51), (2, .inl u52), (3, .inl u53), (4, .inl u54), (5, .inl u55), (6, .inl u56), (8, .inl u58), (9, .inl u59), (10, .inl u60)] rfl rfl dX12_groups_181 ?_
                refine s_iincw 1 (by decide) 8 [(8, .inl (u58 + 1)), (7, .inl (u57 ||| 0)), (0, .inr (.inr (12, 0))), (1, .inl u51), (2, .inl u52), (3, .inl u53), (4, .inl u54), (5, .inl u55), (6, .inl u56), (9, .inl u59), (10, .inl u60)] rfl rfl rfl dX12_groups_183 ?_
                refine s_goto (tgt := 70) dX12_groups_186 (by decide) ?_
                exact s_loc [2, 3, 4, 5, 6, 7, 8, 1, 0] rfl (ih u51 u52 u53 u54 u55 u56 (u57 ||| 0) (u58 + 1) h61)
              · skip
                refine s_aload0 0 rfl dX12_groups_170 ?_
                refine s_iload 8 rfl dX12_groups_171 ?_
                refine s_viI [.inl u58] (fun l b hb hl => cf_X12_mask G l u58 h61 b hb hl) me_X12_mask vi_RX12_235 rfl rfl rfl rfl rfl dX12_groups_173 (fun r63 => ?_)
                refine s_goto (tgt := 180) dX12_groups_176 (by decide) ?_
                refine s_ior dX12_groups_180 ?_
                refine s_istorew [(7, .inl (u57 ||| r63.1)), (0, .inr (.inr (12, 0))), (1, .inl u51), (2, .inl u52), (3, .inl u53), (4, .inl u54), (5, .inl u55), (6, .inl u56), (8, .inl u58), (9, .inl u59), (10, .inl u60)] rfl rfl dX12_groups_181 ?_
                refine s_iincw 1 (by decide) 8 [(8, .inl (u58 + 1)), (7, .inl (u57 ||| r63.1)), (0, .inr (.inr (12, 0))), (1, .inl u51), (2, .inl u52), (3, .inl u53), (4, .inl u54), (5, .inl u55), (6, .inl u56), (9, .inl u59), (10, .inl u60)] rfl rfl rfl dX12_groups_183 ?_
                refine s_goto (tgt := 70) dX12_groups_186 (by decide) ?_
                exact s_loc [2, 3, 4, 5, 6, 7, 8, 1, 0] rfl (ih u51 u52 u53 u54 u55 u56 (u57 ||| r63.1) (u58 + 1) r63.2)
          · skip
            refine s_iload 5 rfl dX12_groups_112 ?_
            refine s_if_eq (tgt := 121) dX12_groups_114 (by decide) (fun q64 => ?_) (fun q64 => ?_)
            · skip
              refine s_k0 dX12_groups_121 ?_
              refine s_istorew [(9, .inl 0), (0, .inr (.inr (12, 0))), (1, .inl v1), (2, .inl v2), (3, .inl v3), (4, .inl v4), (5, .inl v5), (6, .inl v6), (7, .inl v7), (8, .inl v8)] rfl rfl dX12_groups_122 ?_
              refine s_iload2 3 rfl dX12_groups_124 ?_
              refine s_istorew [(10, .inl v2), (9, .inl 0), (0, .inr (.inr (12, 0))), (1, .inl v1), (2, .inl v2), (3, .inl v3), (4, .inl v4), (5, .inl v5), (6, .inl v6), (7, .inl v7), (8, .inl v8)] rfl rfl dX12_groups_125 ?_
              refine s_loc [2, 3, 4, 5, 6, 7, 8, 9, 10, 1, 0] rfl ?_
              refine sf_X12_groups_127 G X  _ (fun u65 u66 u67 u68 u69 u70 u71 u72 u73 u74 h75 => ?_) mFu v1 v2 v3 v4 v5 v6 v7 v8 0 v2 h
              · skip
                refine s_iload 7 rfl dX12_groups_163 ?_
                refine s_iload 9 rfl dX12_groups_165 ?_
                refine s_if_eq (tgt := 179) dX12_groups_167 (by decide) (fun q76 => ?_) (fun q76 => ?_)
                · skip
                  refine s_k0 dX12_groups_179 ?_
                  refine s_ior dX12_groups_180 ?_
                  refine s_istorew [(7, .inl (u71 ||| 0)), (0, .inr (.inr (12, 0))), (1, .inl u65), (2, .inl u66), (3, .inl u67), (4, .inl u68), (5, .inl u69), (6, .inl u70), (8, .inl u72), (9, .inl u73), (10, .inl u74)] rfl rfl dX12_groups_181 ?_
                  refine s_iincw 1 (by decide) 8 [(8, .inl (u72 + 1)), (7, .inl (u71 ||| 0)), (0, .inr (.inr (12, 0))), (1, .inl u65), (2, .inl u66), (3, .inl u67), (4, .inl u68), (5, .inl u69), (6, .inl u70), (9, .inl u73), (10, .inl u74)] rfl rfl rfl dX12_groups_183 ?_
                  refine s_goto (tgt := 70) dX12_groups_186 (by decide) ?_
                  exact s_loc [2, 3, 4, 5, 6, 7, 8, 1, 0] rfl (ih u65 u66 u67 u68 u69 u70 (u71 ||| 0) (u72 + 1) h75)
                · skip
                  refine s_aload0 0 rfl dX12_groups_170 ?_
                  refine s_iload 8 rfl dX12_groups_171 ?_
                  refine s_viI [.inl u72] (fun l b hb hl => cf_X12_mask G l u72 h75 b hb hl) me_X12_mask vi_RX12_235 rfl rfl rfl rfl rfl dX12_groups_173 (fun r77 => ?_)
                  refine s_goto (tgt := 180) dX12_groups_176 (by decide) ?_
                  refine s_ior dX12_groups_180 ?_
                  refine s_istorew [(7, .inl (u71 ||| r77.1)), (0, .inr (.inr (12, 0))), (1, .inl u65), (2, .inl u66), (3, .inl u67), (4, .inl u68), (5, .inl u69), (6, .inl u70), (8, .inl u72), (9, .inl u73), (10, .inl u74)] rfl rfl dX12_groups_181 ?_
                  refine s_iincw 1 (by decide) 8 [(8, .inl (u72 + 1)), (7, .inl (u71 ||| r77.1)), (0, .inr (.inr (12, 0))), (1, .inl u65), (2, .inl u66), (3, .inl u67), (4, .inl u68), (5, .inl u69), (6, .inl u70), (9, .inl u73), (10, .inl u74)] rfl rfl rfl dX12_groups_183 ?_
                  refine s_goto (tgt := 70) dX12_groups_186 (by decide) ?_
                  exact s_loc [2, 3, 4, 5, 6, 7, 8, 1, 0] rfl (ih u65 u66 u67 u68 u69 u70 (u71 ||| r77.1) (u72 + 1) r77.2)
            · skip
              refine s_k1 dX12_groups_117 ?_
              refine s_goto (tgt := 122) dX12_groups_118 (by decide) ?_
              refine s_istorew [(9, .inl 1), (0, .inr (.inr (12, 0))), (1, .inl v1), (2, .inl v2), (3, .inl v3), (4, .inl v4), (5, .inl v5), (6, .inl v6), (7, .inl v7), (8, .inl v8)] rfl rfl dX12_groups_122 ?_
              refine s_iload2 3 rfl dX12_groups_124 ?_
              refine s_istorew [(10, .inl v2), (9, .inl 1), (0, .inr (.inr (12, 0))), (1, .inl v1), (2, .inl v2), (3, .inl v3), (4, .inl v4), (5, .inl v5), (6, .inl v6), (7, .inl v7), (8, .inl v8)] rfl rfl dX12_groups_125 ?_
              refine s_loc [2, 3, 4, 5, 6, 7, 8, 9, 10, 1, 0] rfl ?_
              refine sf_X12_groups_127 G X  _ (fun u78 u79 u80 u81 u82 u83 u84 u85 u86 u87 h88 => ?_) mFu v1 v2 v3 v4 v5 v6 v7 v8 1 v2 h
              · skip
                refine s_iload 7 rfl dX12_groups_163 ?_
                refine s_iload 9 rfl dX12_groups_165 ?_
                refine s_if_eq (tgt := 179) dX12_groups_167 (by decide) (fun q89 => ?_) (fun q89 => ?_)
                · skip
                  refine s_k0 dX12_groups_179 ?_
                  refine s_ior dX12_groups_180 ?_
                  refine s_istorew [(7, .inl (u84 ||| 0)), (0, .inr (.inr (12, 0))), (1, .inl u78), (2, .inl u79), (3, .inl u80), (4, .inl u81), (5, .inl u82), (6, .inl u83), (8, .inl u85), (9, .inl u86), (10, .inl u87)] rfl rfl dX12_groups_181 ?_
                  refine s_iincw 1 (by decide) 8 [(8, .inl (u85 + 1)), (7, .inl (u84 ||| 0)), (0, .inr (.inr (12, 0))), (1, .inl u78), (2, .inl u79), (3, .inl u80), (4, .inl u81), (5, .inl u82), (6, .inl u83), (9, .inl u86), (10, .inl u87)] rfl rfl rfl dX12_groups_183 ?_
                  refine s_goto (tgt := 70) dX12_groups_186 (by decide) ?_
                  exact s_loc [2, 3, 4, 5, 6, 7, 8, 1, 0] rfl (ih u78 u79 u80 u81 u82 u83 (u84 ||| 0) (u85 + 1) h88)
                · skip
                  refine s_aload0 0 rfl dX12_groups_170 ?_
                  refine s_iload 8 rfl dX12_groups_171 ?_
                  refine s_viI [.inl u85] (fun l b hb hl => cf_X12_mask G l u85 h88 b hb hl) me_X12_mask vi_RX12_235 rfl rfl rfl rfl rfl dX12_groups_173 (fun r90 => ?_)
                  refine s_goto (tgt := 180) dX12_groups_176 (by decide) ?_
                  refine s_ior dX12_groups_180 ?_
                  refine s_istorew [(7, .inl (u84 ||| r90.1)), (0, .inr (.inr (12, 0))), (1, .inl u78), (2, .inl u79), (3, .inl u80), (4, .inl u81), (5, .inl u82), (6, .inl u83), (8, .inl u85), (9, .inl u86), (10, .inl u87)] rfl rfl dX12_groups_181 ?_
                  refine s_iincw 1 (by decide) 8 [(8, .inl (u85 + 1)), (7, .inl (u84 ||| r90.1)), (0, .inr (.inr (12, 0))), (1, .inl u78), (2, .inl u79), (3, .inl u80), (4, .inl u81), (5, .inl u82), (6, .inl u83), (9, .inl u86), (10, .inl u87)] rfl rfl rfl dX12_groups_183 ?_
                  refine s_goto (tgt := 70) dX12_groups_186 (by decide) ?_
                  exact s_loc [2, 3, 4, 5, 6, 7, 8, 1, 0] rfl (ih u78 u79 u80 u81 u82 u83 (u84 ||| r90.1) (u85 + 1) r90.2)
set_option maxRecDepth 20000 in
theorem sf_X12_groups_j267 (G : mG) (X : mX) (w1 : Int32) (w4 : Int32) (w6 : Int32) (w7 : Int32) (w8 : Int32) (h : mH) : Sim G X cX12_groups 11 RX12 none (mRoom 2 42) eV (f_X12_groups_j267 w1 w4 w6 w7 w8 h) 267 [(0, .inr (.inr (12, 0))), (1, .inl w1), (4, .inl w4), (6, .inl w6), (7, .inl w7), (8, .inl w8)] [] h := by
  unfold f_X12_groups_j267
  refine s_aload0 0 rfl dX12_groups_267 ?_
  refine s_iload1 1 rfl dX12_groups_268 ?_
  refine s_k0 dX12_groups_269 ?_
  refine s_iload 2 rfl dX12_groups_270 ?_
  refine s_bip (-2) kb_m2 dX12_groups_272 ?_
  refine s_bip (-2) kb_m2 dX12_groups_274 ?_
  refine s_bip (-2) kb_m2 dX12_groups_276 ?_
  refine s_bip (-2) kb_m2 dX12_groups_278 ?_
  refine s_viV [.inl w1, .inl 0, .inl w4, .inl (-2), .inl (-2), .inl (-2), .inl (-2)] (fun l b hb hl => cf_X12_emit G l w1 0 w4 (-2) (-2) (-2) (-2) h b hb hl) me_X12_emit vi_RX12_271 rfl rfl rfl rfl rfl dX12_groups_280 (fun r104 => ?_)
  refine s_aload0 0 rfl dX12_groups_283 ?_
  refine s_iload1 1 rfl dX12_groups_284 ?_
  refine s_k1 dX12_groups_285 ?_
  refine s_iload 2 rfl dX12_groups_286 ?_
  refine s_k1 dX12_groups_288 ?_
  refine s_iload 4 rfl dX12_groups_289 ?_
  refine s_iload 3 rfl dX12_groups_291 ?_
  refine s_bip (-2) kb_m2 dX12_groups_293 ?_
  refine s_viV [.inl w1, .inl 1, .inl w4, .inl 1, .inl w7, .inl w6, .inl (-2)] (fun l b hb hl => cf_X12_emit G l w1 1 w4 1 w7 w6 (-2) r104 b hb hl) me_X12_emit vi_RX12_271 rfl rfl rfl rfl rfl dX12_groups_295 (fun r105 => ?_)
  refine s_iload 5 rfl dX12_groups_298 ?_
  refine s_if_eq (tgt := 320) dX12_groups_300 (by decide) (fun q106 => ?_) (fun q106 => ?_)
  · skip
    exact s_return rfl rfl dX12_groups_320
  · skip
    refine s_aload0 0 rfl dX12_groups_303 ?_
    refine s_iload1 1 rfl dX12_groups_304 ?_
    refine s_bip 6 kb_6 dX12_groups_305 ?_
    refine s_bip (-2) kb_m2 dX12_groups_307 ?_
    refine s_bip (-2) kb_m2 dX12_groups_309 ?_
    refine s_bip (-2) kb_m2 dX12_groups_311 ?_
    refine s_bip (-2) kb_m2 dX12_groups_313 ?_
    refine s_bip (-2) kb_m2 dX12_groups_315 ?_
    refine s_viV [.inl w1, .inl 6, .inl (-2), .inl (-2), .inl (-2), .inl (-2), .inl (-2)] (fun l b hb hl => cf_X12_emit G l w1 6 (-2) (-2) (-2) (-2) (-2) r105 b hb hl) me_X12_emit vi_RX12_271 rfl rfl rfl rfl rfl dX12_groups_317 (fun r107 => ?_)
    exact s_return rfl rfl dX12_groups_320
set_option maxRecDepth 20000 in
theorem sf_X12_groups_j243 (G : mG) (X : mX) (w1 : Int32) (w4 : Int32) (w6 : Int32) (w7 : Int32) (h : mH) : Sim G X cX12_groups 11 RX12 none (mRoom 2 42) eV (f_X12_groups_j243 w1 w4 w6 w7 h) 243 [(0, .inr (.inr (12, 0))), (1, .inl w1), (4, .inl w4), (6, .inl w6), (7, .inl w7)] [] h := by
  unfold f_X12_groups_j243
  refine s_k0 dX12_groups_243 ?_
  refine s_istorew [(8, .inl 0), (0, .inr (.inr (12, 0))), (1, .inl w1), (4, .inl w4), (6, .inl w6), (7, .inl w7)] rfl rfl dX12_groups_244 ?_
  refine s_iload 0 rfl dX12_groups_246 ?_
  refine s_if_eq_P (tgt := 267) (by decide) dX12_groups_248 (by decide) ?_
  exact s_loc [1, 2, 3, 4, 5, 0] rfl (sf_X12_groups_j267 G X w1 w4 w6 w7 0 h)
set_option maxRecDepth 20000 in
theorem sf_X12_groups (G : mG) (X : mX) (x1 : Int32) (x2 : Int32) (x3 : Int32)  (h : mH) : Sim G X cX12_groups 11 RX12 none (mRoom 2 42) eV (f_X12_groups x1 x2 x3 h) 0 [(0, .inr (.inr (12, 0))), (1, .inl x1), (2, .inl x2), (3, .inl x3)] [] h := by
  unfold f_X12_groups
  refine s_aload0 0 rfl dX12_groups_0 ?_
  refine s_gr (gR_RX12_13 0) dX12_groups_1 ?_
  refine s_aload0 0 rfl dX12_groups_4 ?_
  refine s_gr (gR_RX12_56 0) dX12_groups_5 ?_
  refine s_iload2 2 rfl dX12_groups_8 ?_
  refine s_chk (fun q1 => ?_)
  refine s_ial aT_60 q1 dX12_groups_9 ?_
  refine s_chk (fun q2 => ?_)
  refine s_ial aT_46 q2 dX12_groups_10 ?_
  refine s_istorew [(4, .inl (h.1 46 0 (h.1 60 0 x2.toNatClampNeg).toNatClampNeg)), (0, .inr (.inr (12, 0))), (1, .inl x1), (2, .inl x2), (3, .inl x3)] rfl rfl dX12_groups_11 ?_
  refine s_aload0 1 rfl dX12_groups_13 ?_
  refine s_iload 0 rfl dX12_groups_14 ?_
  refine s_viI [.inl (h.1 46 0 (h.1 60 0 x2.toNatClampNeg).toNatClampNeg)] (fun l b hb hl => cf_X12_isShadowed G l (h.1 46 0 (h.1 60 0 x2.toNatClampNeg).toNatClampNeg) h b hb hl) me_X12_isShadowed vi_RX12_268 rfl rfl rfl rfl rfl dX12_groups_16 (fun r3 => ?_)
  refine s_istorew [(5, .inl r3.1), (4, .inl (h.1 46 0 (h.1 60 0 x2.toNatClampNeg).toNatClampNeg)), (0, .inr (.inr (12, 0))), (1, .inl x1), (2, .inl x2), (3, .inl x3)] rfl rfl dX12_groups_19 ?_
  refine s_k0 dX12_groups_21 ?_
  refine s_istorew [(6, .inl 0), (5, .inl r3.1), (4, .inl (h.1 46 0 (h.1 60 0 x2.toNatClampNeg).toNatClampNeg)), (0, .inr (.inr (12, 0))), (1, .inl x1), (2, .inl x2), (3, .inl x3)] rfl rfl dX12_groups_22 ?_
  refine s_k0 dX12_groups_24 ?_
  refine s_istorew [(7, .inl 0), (6, .inl 0), (5, .inl r3.1), (4, .inl (h.1 46 0 (h.1 60 0 x2.toNatClampNeg).toNatClampNeg)), (0, .inr (.inr (12, 0))), (1, .inl x1), (2, .inl x2), (3, .inl x3)] rfl rfl dX12_groups_25 ?_
  refine s_iload2 6 rfl dX12_groups_27 ?_
  refine s_istorew [(8, .inl x2), (7, .inl 0), (6, .inl 0), (5, .inl r3.1), (4, .inl (h.1 46 0 (h.1 60 0 x2.toNatClampNeg).toNatClampNeg)), (0, .inr (.inr (12, 0))), (1, .inl x1), (2, .inl x2), (3, .inl x3)] rfl rfl dX12_groups_28 ?_
  refine s_loc [5, 6, 7, 8, 4, 3, 2, 1, 0] rfl ?_
  refine sf_X12_groups_30 G X  _ (fun u7 u8 u9 u10 u11 u12 u13 u14 h15 => ?_) mFu x1 x2 x3 (h.1 46 0 (h.1 60 0 x2.toNatClampNeg).toNatClampNeg) r3.1 0 0 x2 r3.2
  · skip
    refine s_k0 dX12_groups_67 ?_
    refine s_istorew [(8, .inl 0), (0, .inr (.inr (12, 0))), (1, .inl u7), (2, .inl u8), (3, .inl u9), (4, .inl u10), (5, .inl u11), (6, .inl u12), (7, .inl u13)] rfl rfl dX12_groups_68 ?_
    refine s_loc [1, 2, 3, 4, 5, 6, 7, 8, 0] rfl ?_
    refine sf_X12_groups_70 G X  _ (fun u91 u92 u93 u94 u95 u96 u97 u98 h99 => ?_) mFu u7 u8 u9 u10 u11 u12 u13 0 h15
    · skip
      refine s_iload 7 rfl dX12_groups_189 ?_
      refine s_if_eq (tgt := 199) dX12_groups_191 (by decide) (fun q100 => ?_) (fun q100 => ?_)
      · skip
        refine s_aload0 0 rfl dX12_groups_199 ?_
        refine s_iload1 1 rfl dX12_groups_200 ?_
        refine s_k1 dX12_groups_201 ?_
        refine s_iload 4 rfl dX12_groups_202 ?_
        refine s_iload 7 rfl dX12_groups_204 ?_
        refine s_if_ne_P (tgt := 213) q100 dX12_groups_206 (by decide) ?_
        refine s_k0 dX12_groups_209 ?_
        refine s_goto (tgt := 214) dX12_groups_210 (by decide) ?_
        refine s_iload 7 rfl dX12_groups_214 ?_
        refine s_iload 6 rfl dX12_groups_216 ?_
        refine s_bip (-2) kb_m2 dX12_groups_218 ?_
        refine s_viV [.inl u91, .inl 1, .inl u94, .inl 0, .inl u97, .inl u96, .inl (-2)] (fun l b hb hl => cf_X12_emit G l u91 1 u94 0 u97 u96 (-2) h99 b hb hl) me_X12_emit vi_RX12_271 rfl rfl rfl rfl rfl dX12_groups_220 (fun r101 => ?_)
        exact s_return rfl rfl dX12_groups_223
      · skip
        refine s_iload 5 rfl dX12_groups_194 ?_
        refine s_if_eq (tgt := 224) dX12_groups_196 (by decide) (fun q102 => ?_) (fun q102 => ?_)
        · skip
          refine s_aload0 0 rfl dX12_groups_224 ?_
          refine s_gi gI_RX12_65 dX12_groups_225 ?_
          refine s_k1 dX12_groups_228 ?_
          refine s_ic_ne (tgt := 243) dX12_groups_229 (by decide) (fun q103 => ?_) (fun q103 => ?_)
          · skip
            exact s_loc [0, 1, 4, 6, 7] rfl (sf_X12_groups_j243 G X u91 u94 u96 u97 h99)
          · skip
            refine s_aload0 0 rfl dX12_groups_232 ?_
            refine s_viI [] (fun l b hb hl => cf_X12_hasHandler G l  h99 b hb hl) me_X12_hasHandler vi_RX12_275 rfl rfl rfl rfl rfl dX12_groups_233 (fun r108 => ?_)
            refine s_if_eq (tgt := 243) dX12_groups_236 (by decide) (fun q109 => ?_) (fun q109 => ?_)
            · skip
              exact s_loc [0, 1, 4, 6, 7] rfl (sf_X12_groups_j243 G X u91 u94 u96 u97 r108.2)
            · skip
              refine s_k1 dX12_groups_239 ?_
              refine s_goto (tgt := 244) dX12_groups_240 (by decide) ?_
              refine s_istorew [(8, .inl 1), (0, .inr (.inr (12, 0))), (1, .inl u91), (2, .inl u92), (3, .inl u93), (4, .inl u94), (5, .inl u95), (6, .inl u96), (7, .inl u97)] rfl rfl dX12_groups_244 ?_
              refine s_iload 0 rfl dX12_groups_246 ?_
              refine s_if_eq_N (tgt := 267) (by decide) dX12_groups_248 (by decide) ?_
              refine s_aload0 1 rfl dX12_groups_251 ?_
              refine s_iload1 2 rfl dX12_groups_252 ?_
              refine s_k5 dX12_groups_253 ?_
              refine s_bip (-2) kb_m2 dX12_groups_254 ?_
              refine s_bip (-2) kb_m2 dX12_groups_256 ?_
              refine s_bip (-2) kb_m2 dX12_groups_258 ?_
              refine s_bip (-2) kb_m2 dX12_groups_260 ?_
              refine s_bip (-2) kb_m2 dX12_groups_262 ?_
              refine s_viV [.inl u91, .inl 5, .inl (-2), .inl (-2), .inl (-2), .inl (-2), .inl (-2)] (fun l b hb hl => cf_X12_emit G l u91 5 (-2) (-2) (-2) (-2) (-2) r108.2 b hb hl) me_X12_emit vi_RX12_271 rfl rfl rfl rfl rfl dX12_groups_264 (fun r110 => ?_)
              exact s_loc [1, 2, 5, 7, 8, 0] rfl (sf_X12_groups_j267 G X u91 u94 u96 u97 1 r110)
        · skip
          refine s_aload0 0 rfl dX12_groups_199 ?_
          refine s_iload1 1 rfl dX12_groups_200 ?_
          refine s_k1 dX12_groups_201 ?_
          refine s_iload 4 rfl dX12_groups_202 ?_
          refine s_iload 7 rfl dX12_groups_204 ?_
          refine s_if_ne_N (tgt := 213) q100 dX12_groups_206 (by decide) ?_
          refine s_k2 dX12_groups_213 ?_
          refine s_iload 7 rfl dX12_groups_214 ?_
          refine s_iload 6 rfl dX12_groups_216 ?_
          refine s_bip (-2) kb_m2 dX12_groups_218 ?_
          refine s_viV [.inl u91, .inl 1, .inl u94, .inl 2, .inl u97, .inl u96, .inl (-2)] (fun l b hb hl => cf_X12_emit G l u91 1 u94 2 u97 u96 (-2) h99 b hb hl) me_X12_emit vi_RX12_271 rfl rfl rfl rfl rfl dX12_groups_220 (fun r111 => ?_)
          exact s_return rfl rfl dX12_groups_223
set_option maxRecDepth 20000 in
theorem cf_X12_groups (G : mG) (l : Launch) (x1 : Int32) (x2 : Int32) (x3 : Int32)  (h : mH) (b : mH) (hb : f_X12_groups x1 x2 x3 h = some b) (hl : ∀ v ∈ ([.inr (.inr (12, 0)), .inl x1, .inl x2, .inl x3] : List mV), mLi v) : mMet G l yX12_groups cX12_groups 11 none (mRoom 2 42) [.inr (.inr (12, 0)), .inl x1, .inl x2, .inl x3] h (eV b) :=
  mMet.of (y := yX12_groups) (as := [.inr (.inr (12, 0)), .inl x1, .inl x2, .inl x3]) (by decide +kernel) (Nat.le_of_ble_eq_true rfl) (fun X => sf_X12_groups G X x1 x2 x3  h) hl b hb
-- DriverBookModel.makes(II)V
def f_X12_makes_56 (k : Int32 → Int32 → Int32 → Int32 → mH → Option (mH))  : Nat → Int32 → Int32 → Int32 → Int32 → mH → Option (mH)
  | 0, _, _, _, _, _ => none
  | n + 1, v1, v3, v4, v6, h =>
    if v6 < v3 then
      (f_X12_joins v4 v6 h).bind fun r17 =>
      if r17.1 = 0 then
        k v1 v3 v4 v6 r17.2
      else
        f_X12_makes_56 k  n v1 v3 v4 (v6 + 1) r17.2
    else
      k v1 v3 v4 v6 h
def f_X12_makes_25 (k : Int32 → Int32 → Int32 → mH → Option (mH))  : Nat → Int32 → Int32 → Int32 → mH → Option (mH)
  | 0, _, _, _, _ => none
  | n + 1, v1, v3, v4, h =>
    if v4 < v3 then
      if mIn v4 72 = true then
      if (h.1 59 0 v4.toNatClampNeg) = 0 then
        f_X12_makes_56 (fun u19 u20 u21 u22 h23 =>
          (f_X12_groups u19 u21 u22 h23).bind fun r24 =>
          f_X12_makes_25 k  n u19 u20 u22 r24)  mFu v1 v3 v4 (v4 + 1) h
      else
        if (h.1 59 0 v4.toNatClampNeg) = 1 then
          if mIn (h.1 60 0 v4.toNatClampNeg) 24 = true then
          (f_X12_mask (h.1 60 0 v4.toNatClampNeg) h).bind fun r14 =>
          (f_X12_emit v1 2 (h.1 46 0 (h.1 60 0 v4.toNatClampNeg).toNatClampNeg) (-2) r14.1 ((r14.2.1 61 0 v4.toNatClampNeg) <<< ((r14.2.1 47 0 (h.1 60 0 v4.toNatClampNeg).toNatClampNeg) &&& 31)) (r14.2.1 62 0 v4.toNatClampNeg) r14.2).bind fun r15 =>
          f_X12_makes_25 k  n v1 v3 (v4 + 1) r15
          else none
        else
          if (h.1 59 0 v4.toNatClampNeg) = 2 then
            if mIn (h.1 60 0 v4.toNatClampNeg) 24 = true then
            (f_X12_emit v1 0 (h.1 46 0 (h.1 60 0 v4.toNatClampNeg).toNatClampNeg) (-2) (-2) (-2) (-2) h).bind fun r11 =>
            (f_X12_emit v1 4 (h.1 60 0 v4.toNatClampNeg) (-2) (-2) (-2) (-2) r11).bind fun r12 =>
            f_X12_makes_25 k  n v1 v3 (v4 + 1) r12
            else none
          else
            (f_X12_emit v1 3 (h.1 61 0 v4.toNatClampNeg) (-2) (-2) (-2) (-2) h).bind fun r9 =>
            f_X12_makes_25 k  n v1 v3 (v4 + 1) r9
      else none
    else
      k v1 v3 v4 h
def f_X12_makes (x1 : Int32) (x2 : Int32) (h : mH) : Option (mH) :=
  if mIn x1 2 = true then
  mLet (uI h 93 0 x1.toNatClampNeg 0) fun h2 =>
  if mIn x2 6 = true then
  f_X12_makes_25 (fun u25 u26 u27 h28 =>
    some h28)  mFu x1 ((12 * x2) + (h2.1 58 0 x2.toNatClampNeg)) (12 * x2) h2
  else none
  else none
set_option maxRecDepth 20000 in
theorem sf_X12_makes_56 (G : mG) (X : mX)   (k : Int32 → Int32 → Int32 → Int32 → mH → Option (mH)) (hk : ∀ (v1 : Int32) (v3 : Int32) (v4 : Int32) (v6 : Int32) (h : mH), Sim G X cX12_makes 7 RX12 none (mRoom 3 72) eV (k v1 v3 v4 v6 h) 79 [(0, .inr (.inr (12, 0))), (1, .inl v1), (3, .inl v3), (4, .inl v4), (6, .inl v6)] [] h) (n : Nat) : ∀ (v1 : Int32) (v3 : Int32) (v4 : Int32) (v6 : Int32) (h : mH), Sim G X cX12_makes 7 RX12 none (mRoom 3 72) eV (f_X12_makes_56 k  n v1 v3 v4 v6 h) 56 [(0, .inr (.inr (12, 0))), (1, .inl v1), (3, .inl v3), (4, .inl v4), (6, .inl v6)] [] h := by
  induction n with
  | zero =>
    intro v1 v3 v4 v6 h
    exact s_none
  | succ n ih =>
    intro v1 v3 v4 v6 h
    unfold f_X12_makes_56
    refine s_iload 4 rfl dX12_makes_56 ?_
    refine s_iload3 2 rfl dX12_makes_58 ?_
    refine s_ic_ge (tgt := 79) dX12_makes_59 (by decide) (fun q16 => ?_) (fun q16 => ?_)
    · skip
      exact s_loc [0, 1, 2, 3, 4] rfl (hk v1 v3 v4 v6 h)
    · skip
      refine s_aload0 0 rfl dX12_makes_62 ?_
      refine s_iload 3 rfl dX12_makes_63 ?_
      refine s_iload 4 rfl dX12_makes_65 ?_
      refine s_viI [.inl v4, .inl v6] (fun l b hb hl => cf_X12_joins G l v4 v6 h b hb hl) me_X12_joins vi_RX12_279 rfl rfl rfl rfl rfl dX12_makes_67 (fun r17 => ?_)
      refine s_if_eq (tgt := 79) dX12_makes_70 (by decide) (fun q18 => ?_) (fun q18 => ?_)
      · skip
        exact s_loc [0, 1, 2, 3, 4] rfl (hk v1 v3 v4 v6 r17.2)
      · skip
        refine s_iincw 1 (by decide) 4 [(6, .inl (v6 + 1)), (0, .inr (.inr (12, 0))), (1, .inl v1), (3, .inl v3), (4, .inl v4)] rfl rfl rfl dX12_makes_73 ?_
        refine s_goto (tgt := 56) dX12_makes_76 (by decide) ?_
        exact s_loc [1, 2, 3, 4, 0] rfl (ih v1 v3 v4 (v6 + 1) r17.2)
set_option maxRecDepth 20000 in
theorem sf_X12_makes_25 (G : mG) (X : mX)   (k : Int32 → Int32 → Int32 → mH → Option (mH)) (hk : ∀ (v1 : Int32) (v3 : Int32) (v4 : Int32) (h : mH), Sim G X cX12_makes 7 RX12 none (mRoom 3 72) eV (k v1 v3 v4 h) 227 [(0, .inr (.inr (12, 0))), (1, .inl v1), (3, .inl v3), (4, .inl v4)] [] h) (n : Nat) : ∀ (v1 : Int32) (v3 : Int32) (v4 : Int32) (h : mH), Sim G X cX12_makes 7 RX12 none (mRoom 3 72) eV (f_X12_makes_25 k  n v1 v3 v4 h) 25 [(0, .inr (.inr (12, 0))), (1, .inl v1), (3, .inl v3), (4, .inl v4)] [] h := by
  induction n with
  | zero =>
    intro v1 v3 v4 h
    exact s_none
  | succ n ih =>
    intro v1 v3 v4 h
    unfold f_X12_makes_25
    refine s_iload 3 rfl dX12_makes_25 ?_
    refine s_iload3 2 rfl dX12_makes_27 ?_
    refine s_ic_ge (tgt := 227) dX12_makes_28 (by decide) (fun q4 => ?_) (fun q4 => ?_)
    · skip
      exact s_loc [0, 1, 2, 3] rfl (hk v1 v3 v4 h)
    · skip
      refine s_aload0 0 rfl dX12_makes_31 ?_
      refine s_gr (gR_RX12_56 0) dX12_makes_32 ?_
      refine s_iload 3 rfl dX12_makes_35 ?_
      refine s_chk (fun q5 => ?_)
      refine s_ial aT_60 q5 dX12_makes_37 ?_
      refine s_istorew [(5, .inl (h.1 60 0 v4.toNatClampNeg)), (0, .inr (.inr (12, 0))), (1, .inl v1), (3, .inl v3), (4, .inl v4)] rfl rfl dX12_makes_38 ?_
      refine s_iload 4 rfl dX12_makes_40 ?_
      refine s_k1 dX12_makes_42 ?_
      refine s_iadd dX12_makes_43 ?_
      refine s_istorew [(6, .inl (v4 + 1)), (5, .inl (h.1 60 0 v4.toNatClampNeg)), (0, .inr (.inr (12, 0))), (1, .inl v1), (3, .inl v3), (4, .inl v4)] rfl rfl dX12_makes_44 ?_
      refine s_aload0 2 rfl dX12_makes_46 ?_
      refine s_gr (gR_RX12_53 0) dX12_makes_47 ?_
      refine s_iload 5 rfl dX12_makes_50 ?_
      refine s_ial aT_59 q5 dX12_makes_52 ?_
      refine s_if_ne (tgt := 91) dX12_makes_53 (by decide) (fun q6 => ?_) (fun q6 => ?_)
      · skip
        refine s_aload0 2 rfl dX12_makes_91 ?_
        refine s_gr (gR_RX12_53 0) dX12_makes_92 ?_
        refine s_iload 5 rfl dX12_makes_95 ?_
        refine s_ial aT_59 q5 dX12_makes_97 ?_
        refine s_k1 dX12_makes_98 ?_
        refine s_ic_ne (tgt := 148) dX12_makes_99 (by decide) (fun q7 => ?_) (fun q7 => ?_)
        · skip
          refine s_aload0 2 rfl dX12_makes_148 ?_
          refine s_gr (gR_RX12_53 0) dX12_makes_149 ?_
          refine s_iload 5 rfl dX12_makes_152 ?_
          refine s_ial aT_59 q5 dX12_makes_154 ?_
          refine s_k2 dX12_makes_155 ?_
          refine s_ic_ne (tgt := 199) dX12_makes_156 (by decide) (fun q8 => ?_) (fun q8 => ?_)
          · skip
            refine s_aload0 2 rfl dX12_makes_199 ?_
            refine s_iload1 3 rfl dX12_makes_200 ?_
            refine s_k3 dX12_makes_201 ?_
            refine s_aload0 2 rfl dX12_makes_202 ?_
            refine s_gr (gR_RX12_59 0) dX12_makes_203 ?_
            refine s_iload 5 rfl dX12_makes_206 ?_
            refine s_ial aT_61 q5 dX12_makes_208 ?_
            refine s_bip (-2) kb_m2 dX12_makes_209 ?_
            refine s_bip (-2) kb_m2 dX12_makes_211 ?_
            refine s_bip (-2) kb_m2 dX12_makes_213 ?_
            refine s_bip (-2) kb_m2 dX12_makes_215 ?_
            refine s_viV [.inl v1, .inl 3, .inl (h.1 61 0 v4.toNatClampNeg), .inl (-2), .inl (-2), .inl (-2), .inl (-2)] (fun l b hb hl => cf_X12_emit G l v1 3 (h.1 61 0 v4.toNatClampNeg) (-2) (-2) (-2) (-2) h b hb hl) me_X12_emit vi_RX12_271 rfl rfl rfl rfl rfl dX12_makes_217 (fun r9 => ?_)
            refine s_iload 0 rfl dX12_makes_220 ?_
            refine s_istorew [(4, .inl (v4 + 1)), (6, .inl (v4 + 1)), (5, .inl (h.1 60 0 v4.toNatClampNeg)), (0, .inr (.inr (12, 0))), (1, .inl v1), (3, .inl v3)] rfl rfl dX12_makes_222 ?_
            refine s_goto (tgt := 25) dX12_makes_224 (by decide) ?_
            exact s_loc [3, 4, 5, 0] rfl (ih v1 v3 (v4 + 1) r9)
          · skip
            refine s_aload0 2 rfl dX12_makes_159 ?_
            refine s_iload1 3 rfl dX12_makes_160 ?_
            refine s_k0 dX12_makes_161 ?_
            refine s_aload0 2 rfl dX12_makes_162 ?_
            refine s_gr (gR_RX12_13 0) dX12_makes_163 ?_
            refine s_iload 1 rfl dX12_makes_166 ?_
            refine s_chk (fun q10 => ?_)
            refine s_ial aT_46 q10 dX12_makes_168 ?_
            refine s_bip (-2) kb_m2 dX12_makes_169 ?_
            refine s_bip (-2) kb_m2 dX12_makes_171 ?_
            refine s_bip (-2) kb_m2 dX12_makes_173 ?_
            refine s_bip (-2) kb_m2 dX12_makes_175 ?_
            refine s_viV [.inl v1, .inl 0, .inl (h.1 46 0 (h.1 60 0 v4.toNatClampNeg).toNatClampNeg), .inl (-2), .inl (-2), .inl (-2), .inl (-2)] (fun l b hb hl => cf_X12_emit G l v1 0 (h.1 46 0 (h.1 60 0 v4.toNatClampNeg).toNatClampNeg) (-2) (-2) (-2) (-2) h b hb hl) me_X12_emit vi_RX12_271 rfl rfl rfl rfl rfl dX12_makes_177 (fun r11 => ?_)
            refine s_aload0 2 rfl dX12_makes_180 ?_
            refine s_iload1 3 rfl dX12_makes_181 ?_
            refine s_k4 dX12_makes_182 ?_
            refine s_iload 1 rfl dX12_makes_183 ?_
            refine s_bip (-2) kb_m2 dX12_makes_185 ?_
            refine s_bip (-2) kb_m2 dX12_makes_187 ?_
            refine s_bip (-2) kb_m2 dX12_makes_189 ?_
            refine s_bip (-2) kb_m2 dX12_makes_191 ?_
            refine s_viV [.inl v1, .inl 4, .inl (h.1 60 0 v4.toNatClampNeg), .inl (-2), .inl (-2), .inl (-2), .inl (-2)] (fun l b hb hl => cf_X12_emit G l v1 4 (h.1 60 0 v4.toNatClampNeg) (-2) (-2) (-2) (-2) r11 b hb hl) me_X12_emit vi_RX12_271 rfl rfl rfl rfl rfl dX12_makes_193 (fun r12 => ?_)
            refine s_goto (tgt := 220) dX12_makes_196 (by decide) ?_
            refine s_iload 0 rfl dX12_makes_220 ?_
            refine s_istorew [(4, .inl (v4 + 1)), (6, .inl (v4 + 1)), (5, .inl (h.1 60 0 v4.toNatClampNeg)), (0, .inr (.inr (12, 0))), (1, .inl v1), (3, .inl v3)] rfl rfl dX12_makes_222 ?_
            refine s_goto (tgt := 25) dX12_makes_224 (by decide) ?_
            exact s_loc [3, 4, 5, 0] rfl (ih v1 v3 (v4 + 1) r12)
        · skip
          refine s_aload0 2 rfl dX12_makes_102 ?_
          refine s_iload1 3 rfl dX12_makes_103 ?_
          refine s_k2 dX12_makes_104 ?_
          refine s_aload0 2 rfl dX12_makes_105 ?_
          refine s_gr (gR_RX12_13 0) dX12_makes_106 ?_
          refine s_iload 1 rfl dX12_makes_109 ?_
          refine s_chk (fun q13 => ?_)
          refine s_ial aT_46 q13 dX12_makes_111 ?_
          refine s_bip (-2) kb_m2 dX12_makes_112 ?_
          refine s_aload0 2 rfl dX12_makes_114 ?_
          refine s_iload 1 rfl dX12_makes_115 ?_
          refine s_viI [.inl (h.1 60 0 v4.toNatClampNeg)] (fun l b hb hl => cf_X12_mask G l (h.1 60 0 v4.toNatClampNeg) h b hb hl) me_X12_mask vi_RX12_235 rfl rfl rfl rfl rfl dX12_makes_117 (fun r14 => ?_)
          refine s_aload0 2 rfl dX12_makes_120 ?_
          refine s_gr (gR_RX12_59 0) dX12_makes_121 ?_
          refine s_iload 5 rfl dX12_makes_124 ?_
          refine s_ial aT_61 q5 dX12_makes_126 ?_
          refine s_aload0 2 rfl dX12_makes_127 ?_
          refine s_gr (gR_RX12_17 0) dX12_makes_128 ?_
          refine s_iload 1 rfl dX12_makes_131 ?_
          refine s_ial aT_47 q13 dX12_makes_133 ?_
          refine s_ishl dX12_makes_134 ?_
          refine s_aload0 2 rfl dX12_makes_135 ?_
          refine s_gr (gR_RX12_62 0) dX12_makes_136 ?_
          refine s_iload 5 rfl dX12_makes_139 ?_
          refine s_ial aT_62 q5 dX12_makes_141 ?_
          refine s_viV [.inl v1, .inl 2, .inl (h.1 46 0 (h.1 60 0 v4.toNatClampNeg).toNatClampNeg), .inl (-2), .inl r14.1, .inl ((r14.2.1 61 0 v4.toNatClampNeg) <<< ((r14.2.1 47 0 (h.1 60 0 v4.toNatClampNeg).toNatClampNeg) &&& 31)), .inl (r14.2.1 62 0 v4.toNatClampNeg)] (fun l b hb hl => cf_X12_emit G l v1 2 (h.1 46 0 (h.1 60 0 v4.toNatClampNeg).toNatClampNeg) (-2) r14.1 ((r14.2.1 61 0 v4.toNatClampNeg) <<< ((r14.2.1 47 0 (h.1 60 0 v4.toNatClampNeg).toNatClampNeg) &&& 31)) (r14.2.1 62 0 v4.toNatClampNeg) r14.2 b hb hl) me_X12_emit vi_RX12_271 rfl rfl rfl rfl rfl dX12_makes_142 (fun r15 => ?_)
          refine s_goto (tgt := 220) dX12_makes_145 (by decide) ?_
          refine s_iload 0 rfl dX12_makes_220 ?_
          refine s_istorew [(4, .inl (v4 + 1)), (6, .inl (v4 + 1)), (5, .inl (h.1 60 0 v4.toNatClampNeg)), (0, .inr (.inr (12, 0))), (1, .inl v1), (3, .inl v3)] rfl rfl dX12_makes_222 ?_
          refine s_goto (tgt := 25) dX12_makes_224 (by decide) ?_
          exact s_loc [3, 4, 5, 0] rfl (ih v1 v3 (v4 + 1) r15)
      · skip
        refine s_loc [2, 3, 4, 5, 0] rfl ?_
        refine sf_X12_makes_56 G X  _ (fun u19 u20 u21 u22 h23 => ?_) mFu v1 v3 v4 (v4 + 1) h
        · skip
          refine s_aload0 0 rfl dX12_makes_79 ?_
          refine s_iload1 1 rfl dX12_makes_80 ?_
          refine s_iload 3 rfl dX12_makes_81 ?_
          refine s_iload 4 rfl dX12_makes_83 ?_
          refine s_viV [.inl u19, .inl u21, .inl u22] (fun l b hb hl => cf_X12_groups G l u19 u21 u22 h23 b hb hl) me_X12_groups vi_RX12_282 rfl rfl rfl rfl rfl dX12_makes_85 (fun r24 => ?_)
          refine s_goto (tgt := 220) dX12_makes_88 (by decide) ?_
          refine s_iload 4 rfl dX12_makes_220 ?_
          refine s_istorew [(4, .inl u22), (0, .inr (.inr (12, 0))), (1, .inl u19), (3, .inl u20), (6, .inl u22)] rfl rfl dX12_makes_222 ?_
          refine s_goto (tgt := 25) dX12_makes_224 (by decide) ?_
          exact s_loc [1, 2, 3, 0] rfl (ih u19 u20 u22 r24)
set_option maxRecDepth 20000 in
theorem sf_X12_makes (G : mG) (X : mX) (x1 : Int32) (x2 : Int32)  (h : mH) : Sim G X cX12_makes 7 RX12 none (mRoom 3 72) eV (f_X12_makes x1 x2 h) 0 [(0, .inr (.inr (12, 0))), (1, .inl x1), (2, .inl x2)] [] h := by
  unfold f_X12_makes
  refine s_aload0 0 rfl dX12_makes_0 ?_
  refine s_gr (gR_RX12_166 0) dX12_makes_1 ?_
  refine s_iload1 1 rfl dX12_makes_4 ?_
  refine s_k0 dX12_makes_5 ?_
  refine s_chk (fun q1 => ?_)
  refine s_ias aT_93 q1 dX12_makes_6 ?_
  refine s_bip 12 kb_12 dX12_makes_7 ?_
  refine s_iload2 2 rfl dX12_makes_9 ?_
  refine s_imul dX12_makes_10 ?_
  refine s_aload0 0 rfl dX12_makes_11 ?_
  refine s_gr (gR_RX12_50 0) dX12_makes_12 ?_
  refine s_iload2 2 rfl dX12_makes_15 ?_
  refine s_let (fun h2 => ?_)
  refine s_chk (fun q3 => ?_)
  refine s_ial aT_58 q3 dX12_makes_16 ?_
  refine s_iadd dX12_makes_17 ?_
  refine s_istore3 [(3, .inl ((12 * x2) + (h2.1 58 0 x2.toNatClampNeg))), (0, .inr (.inr (12, 0))), (1, .inl x1), (2, .inl x2)] rfl rfl dX12_makes_18 ?_
  refine s_bip 12 kb_12 dX12_makes_19 ?_
  refine s_iload2 3 rfl dX12_makes_21 ?_
  refine s_imul dX12_makes_22 ?_
  refine s_istorew [(4, .inl (12 * x2)), (3, .inl ((12 * x2) + (h2.1 58 0 x2.toNatClampNeg))), (0, .inr (.inr (12, 0))), (1, .inl x1), (2, .inl x2)] rfl rfl dX12_makes_23 ?_
  refine s_loc [2, 3, 1, 0] rfl ?_
  refine sf_X12_makes_25 G X  _ (fun u25 u26 u27 h28 => ?_) mFu x1 ((12 * x2) + (h2.1 58 0 x2.toNatClampNeg)) (12 * x2) h2
  · skip
    exact s_return rfl rfl dX12_makes_227
set_option maxRecDepth 20000 in
theorem cf_X12_makes (G : mG) (l : Launch) (x1 : Int32) (x2 : Int32)  (h : mH) (b : mH) (hb : f_X12_makes x1 x2 h = some b) (hl : ∀ v ∈ ([.inr (.inr (12, 0)), .inl x1, .inl x2] : List mV), mLi v) : mMet G l yX12_makes cX12_makes 7 none (mRoom 3 72) [.inr (.inr (12, 0)), .inl x1, .inl x2] h (eV b) :=
  mMet.of (y := yX12_makes) (as := [.inr (.inr (12, 0)), .inl x1, .inl x2]) (by decide +kernel) (Nat.le_of_ble_eq_true rfl) (fun X => sf_X12_makes G X x1 x2  h) hl b hb
-- DriverBookModel.code(I)I
def f_X12_code (x1 : Int32) (h : mH) : Option (Int32 × mH) :=
  (f_X12_isAct x1 h).bind fun r1 =>
  if r1.1 = 0 then
    some ((-1), r1.2)
  else
    (f_X12_makes 0 x1 r1.2).bind fun r3 =>
    some (r3.1 93 0 (0 : Int32).toNatClampNeg, r3)
set_option maxRecDepth 20000 in
theorem sf_X12_code (G : mG) (X : mX) (x1 : Int32)  (h : mH) : Sim G X cX12_code 2 RX12 (some .int) (mRoom 4 98) eI (f_X12_code x1 h) 0 [(0, .inr (.inr (12, 0))), (1, .inl x1)] [] h := by
  unfold f_X12_code
  refine s_aload0 0 rfl dX12_code_0 ?_
  refine s_iload1 1 rfl dX12_code_1 ?_
  refine s_viI [.inl x1] (fun l b hb hl => cf_X12_isAct G l x1 h b hb hl) me_X12_isAct vi_RX12_241 rfl rfl rfl rfl rfl dX12_code_2 (fun r1 => ?_)
  refine s_if_ne (tgt := 10) dX12_code_5 (by decide) (fun q2 => ?_) (fun q2 => ?_)
  · skip
    refine s_aload0 0 rfl dX12_code_10 ?_
    refine s_k0 dX12_code_11 ?_
    refine s_iload1 1 rfl dX12_code_12 ?_
    refine s_viV [.inl 0, .inl x1] (fun l b hb hl => cf_X12_makes G l 0 x1 r1.2 b hb hl) me_X12_makes vi_RX12_286 rfl rfl rfl rfl rfl dX12_code_13 (fun r3 => ?_)
    refine s_aload0 0 rfl dX12_code_16 ?_
    refine s_gr (gR_RX12_166 0) dX12_code_17 ?_
    refine s_k0 dX12_code_20 ?_
    refine s_ial aT_93 (by decide) dX12_code_21 ?_
    exact s_ireturn rfl rfl dX12_code_22
  · skip
    refine s_km1 dX12_code_8 ?_
    exact s_ireturn rfl rfl dX12_code_9
set_option maxRecDepth 20000 in
theorem cf_X12_code (G : mG) (l : Launch) (x1 : Int32)  (h : mH) (b : Int32 × mH) (hb : f_X12_code x1 h = some b) (hl : ∀ v ∈ ([.inr (.inr (12, 0)), .inl x1] : List mV), mLi v) : mMet G l yX12_code cX12_code 2 (some .int) (mRoom 4 98) [.inr (.inr (12, 0)), .inl x1] h (eI b) :=
  mMet.of (y := yX12_code) (as := [.inr (.inr (12, 0)), .inl x1]) (by decide +kernel) (Nat.le_of_ble_eq_true rfl) (fun X => sf_X12_code G X x1  h) hl b hb
-- DriverBookModel.op(III)I
def f_X12_op (x1 : Int32) (x2 : Int32) (x3 : Int32) (h : mH) : Option (Int32 × mH) :=
  (f_X12_isAct x1 h).bind fun r1 =>
  if r1.1 = 0 then
    some ((-1), r1.2)
  else
    (f_X12_in x3 0 5 r1.2).bind fun r3 =>
    if r3.1 = 0 then
      some ((-1), r3.2)
    else
      (f_X12_makes 0 x1 r3.2).bind fun r5 =>
      (f_X12_in x2 0 ((r5.1 93 0 (0 : Int32).toNatClampNeg) - 1) r5).bind fun r6 =>
      if r6.1 = 0 then
        some ((-1), r6.2)
      else
        if mIn ((6 * x2) + x3) 600 = true then
        some (r6.2.1 94 0 ((6 * x2) + x3).toNatClampNeg, r6.2)
        else none
set_option maxRecDepth 20000 in
theorem sf_X12_op (G : mG) (X : mX) (x1 : Int32) (x2 : Int32) (x3 : Int32)  (h : mH) : Sim G X cX12_op 4 RX12 (some .int) (mRoom 4 98) eI (f_X12_op x1 x2 x3 h) 0 [(0, .inr (.inr (12, 0))), (1, .inl x1), (2, .inl x2), (3, .inl x3)] [] h := by
  unfold f_X12_op
  refine s_aload0 0 rfl dX12_op_0 ?_
  refine s_iload1 1 rfl dX12_op_1 ?_
  refine s_viI [.inl x1] (fun l b hb hl => cf_X12_isAct G l x1 h b hb hl) me_X12_isAct vi_RX12_241 rfl rfl rfl rfl rfl dX12_op_2 (fun r1 => ?_)
  refine s_if_eq (tgt := 17) dX12_op_5 (by decide) (fun q2 => ?_) (fun q2 => ?_)
  · skip
    refine s_km1 dX12_op_17 ?_
    exact s_ireturn rfl rfl dX12_op_18
  · skip
    refine s_iload3 3 rfl dX12_op_8 ?_
    refine s_k0 dX12_op_9 ?_
    refine s_k5 dX12_op_10 ?_
    refine s_siI [.inl x3, .inl 0, .inl 5] (fun l b hb hl => cf_X12_in G l x3 0 5 r1.2 b hb hl) me_X12_in si_RX12_184 rfl rfl rfl rfl rfl dX12_op_11 (fun r3 => ?_)
    refine s_if_ne (tgt := 19) dX12_op_14 (by decide) (fun q4 => ?_) (fun q4 => ?_)
    · skip
      refine s_aload0 0 rfl dX12_op_19 ?_
      refine s_k0 dX12_op_20 ?_
      refine s_iload1 1 rfl dX12_op_21 ?_
      refine s_viV [.inl 0, .inl x1] (fun l b hb hl => cf_X12_makes G l 0 x1 r3.2 b hb hl) me_X12_makes vi_RX12_286 rfl rfl rfl rfl rfl dX12_op_22 (fun r5 => ?_)
      refine s_iload2 2 rfl dX12_op_25 ?_
      refine s_k0 dX12_op_26 ?_
      refine s_aload0 0 rfl dX12_op_27 ?_
      refine s_gr (gR_RX12_166 0) dX12_op_28 ?_
      refine s_k0 dX12_op_31 ?_
      refine s_ial aT_93 (by decide) dX12_op_32 ?_
      refine s_k1 dX12_op_33 ?_
      refine s_isub dX12_op_34 ?_
      refine s_siI [.inl x2, .inl 0, .inl ((r5.1 93 0 (0 : Int32).toNatClampNeg) - 1)] (fun l b hb hl => cf_X12_in G l x2 0 ((r5.1 93 0 (0 : Int32).toNatClampNeg) - 1) r5 b hb hl) me_X12_in si_RX12_184 rfl rfl rfl rfl rfl dX12_op_35 (fun r6 => ?_)
      refine s_if_eq (tgt := 55) dX12_op_38 (by decide) (fun q7 => ?_) (fun q7 => ?_)
      · skip
        refine s_km1 dX12_op_55 ?_
        exact s_ireturn rfl rfl dX12_op_56
      · skip
        refine s_aload0 0 rfl dX12_op_41 ?_
        refine s_gr (gR_RX12_169 0) dX12_op_42 ?_
        refine s_bip 6 kb_6 dX12_op_45 ?_
        refine s_iload2 2 rfl dX12_op_47 ?_
        refine s_imul dX12_op_48 ?_
        refine s_iload3 3 rfl dX12_op_49 ?_
        refine s_iadd dX12_op_50 ?_
        refine s_chk (fun q8 => ?_)
        refine s_ial aT_94 q8 dX12_op_51 ?_
        refine s_goto (tgt := 56) dX12_op_52 (by decide) ?_
        exact s_ireturn rfl rfl dX12_op_56
    · skip
      refine s_km1 dX12_op_17 ?_
      exact s_ireturn rfl rfl dX12_op_18
set_option maxRecDepth 20000 in
theorem cf_X12_op (G : mG) (l : Launch) (x1 : Int32) (x2 : Int32) (x3 : Int32)  (h : mH) (b : Int32 × mH) (hb : f_X12_op x1 x2 x3 h = some b) (hl : ∀ v ∈ ([.inr (.inr (12, 0)), .inl x1, .inl x2, .inl x3] : List mV), mLi v) : mMet G l yX12_op cX12_op 4 (some .int) (mRoom 4 98) [.inr (.inr (12, 0)), .inl x1, .inl x2, .inl x3] h (eI b) :=
  mMet.of (y := yX12_op) (as := [.inr (.inr (12, 0)), .inl x1, .inl x2, .inl x3]) (by decide +kernel) (Nat.le_of_ble_eq_true rfl) (fun X => sf_X12_op G X x1 x2 x3  h) hl b hb
-- DriverBookModel.same(II)I
def f_X12_same_54 (k : Int32 → Int32 → mH → Option (Int32 × mH))  : Nat → Int32 → Int32 → mH → Option (Int32 × mH)
  | 0, _, _, _ => none
  | n + 1, v3, v4, h =>
    if v4 < (6 * (h.1 93 0 (0 : Int32).toNatClampNeg)) then
      if v3 = 0 then
        k v3 v4 h
      else
        if mIn v4 600 = true then
        if mIn (300 + v4) 600 = true then
        if (h.1 94 0 v4.toNatClampNeg) = (h.1 94 0 (300 + v4).toNatClampNeg) then
          f_X12_same_54 k  n 1 (v4 + 1) h
        else
          f_X12_same_54 k  n 0 (v4 + 1) h
        else none
        else none
    else
      k v3 v4 h
def f_X12_same (x1 : Int32) (x2 : Int32) (h : mH) : Option (Int32 × mH) :=
  (f_X12_isAct x1 h).bind fun r1 =>
  if r1.1 = 0 then
    some ((-1), r1.2)
  else
    (f_X12_isAct x2 r1.2).bind fun r3 =>
    if r3.1 = 0 then
      some ((-1), r3.2)
    else
      (f_X12_makes 0 x1 r3.2).bind fun r5 =>
      (f_X12_makes 1 x2 r5).bind fun r6 =>
      if (r6.1 93 0 (0 : Int32).toNatClampNeg) = (r6.1 93 0 (1 : Int32).toNatClampNeg) then
        f_X12_same_54 (fun u17 u18 h19 =>
          if u17 = 0 then
            some (0, h19)
          else
            some (1, h19))  mFu 1 0 r6
      else
        f_X12_same_54 (fun u13 u14 h15 =>
          if u13 = 0 then
            some (0, h15)
          else
            some (1, h15))  mFu 0 0 r6
set_option maxRecDepth 20000 in
theorem sf_X12_same_54 (G : mG) (X : mX)   (k : Int32 → Int32 → mH → Option (Int32 × mH)) (hk : ∀ (v3 : Int32) (v4 : Int32) (h : mH), Sim G X cX12_same 5 RX12 (some .int) (mRoom 4 98) eI (k v3 v4 h) 105 [(0, .inr (.inr (12, 0))), (3, .inl v3), (4, .inl v4)] [] h) (n : Nat) : ∀ (v3 : Int32) (v4 : Int32) (h : mH), Sim G X cX12_same 5 RX12 (some .int) (mRoom 4 98) eI (f_X12_same_54 k  n v3 v4 h) 54 [(0, .inr (.inr (12, 0))), (3, .inl v3), (4, .inl v4)] [] h := by
  induction n with
  | zero =>
    intro v3 v4 h
    exact s_none
  | succ n ih =>
    intro v3 v4 h
    unfold f_X12_same_54
    refine s_iload 2 rfl dX12_same_54 ?_
    refine s_bip 6 kb_6 dX12_same_56 ?_
    refine s_aload0 0 rfl dX12_same_58 ?_
    refine s_gr (gR_RX12_166 0) dX12_same_59 ?_
    refine s_k0 dX12_same_62 ?_
    refine s_ial aT_93 (by decide) dX12_same_63 ?_
    refine s_imul dX12_same_64 ?_
    refine s_ic_ge (tgt := 105) dX12_same_65 (by decide) (fun q8 => ?_) (fun q8 => ?_)
    · skip
      exact s_loc [0, 1, 2] rfl (hk v3 v4 h)
    · skip
      refine s_iload3 1 rfl dX12_same_68 ?_
      refine s_if_eq (tgt := 105) dX12_same_69 (by decide) (fun q9 => ?_) (fun q9 => ?_)
      · skip
        exact s_loc [0, 1, 2] rfl (hk v3 v4 h)
      · skip
        refine s_aload0 0 rfl dX12_same_72 ?_
        refine s_gr (gR_RX12_169 0) dX12_same_73 ?_
        refine s_iload 2 rfl dX12_same_76 ?_
        refine s_chk (fun q10 => ?_)
        refine s_ial aT_94 q10 dX12_same_78 ?_
        refine s_aload0 0 rfl dX12_same_79 ?_
        refine s_gr (gR_RX12_169 0) dX12_same_80 ?_
        refine s_sip 300 ks_300 dX12_same_83 ?_
        refine s_iload 2 rfl dX12_same_86 ?_
        refine s_iadd dX12_same_88 ?_
        refine s_chk (fun q11 => ?_)
        refine s_ial aT_94 q11 dX12_same_89 ?_
        refine s_ic_ne (tgt := 97) dX12_same_90 (by decide) (fun q12 => ?_) (fun q12 => ?_)
        · skip
          refine s_k0 dX12_same_97 ?_
          refine s_istore3 [(3, .inl 0), (0, .inr (.inr (12, 0))), (4, .inl v4)] rfl rfl dX12_same_98 ?_
          refine s_iincw 1 (by decide) 2 [(4, .inl (v4 + 1)), (3, .inl 0), (0, .inr (.inr (12, 0)))] rfl rfl rfl dX12_same_99 ?_
          refine s_goto (tgt := 54) dX12_same_102 (by decide) ?_
          exact s_loc [2, 1, 0] rfl (ih 0 (v4 + 1) h)
        · skip
          refine s_k1 dX12_same_93 ?_
          refine s_goto (tgt := 98) dX12_same_94 (by decide) ?_
          refine s_istore3 [(3, .inl 1), (0, .inr (.inr (12, 0))), (4, .inl v4)] rfl rfl dX12_same_98 ?_
          refine s_iincw 1 (by decide) 2 [(4, .inl (v4 + 1)), (3, .inl 1), (0, .inr (.inr (12, 0)))] rfl rfl rfl dX12_same_99 ?_
          refine s_goto (tgt := 54) dX12_same_102 (by decide) ?_
          exact s_loc [2, 1, 0] rfl (ih 1 (v4 + 1) h)
set_option maxRecDepth 20000 in
theorem sf_X12_same (G : mG) (X : mX) (x1 : Int32) (x2 : Int32)  (h : mH) : Sim G X cX12_same 5 RX12 (some .int) (mRoom 4 98) eI (f_X12_same x1 x2 h) 0 [(0, .inr (.inr (12, 0))), (1, .inl x1), (2, .inl x2)] [] h := by
  unfold f_X12_same
  refine s_aload0 0 rfl dX12_same_0 ?_
  refine s_iload1 1 rfl dX12_same_1 ?_
  refine s_viI [.inl x1] (fun l b hb hl => cf_X12_isAct G l x1 h b hb hl) me_X12_isAct vi_RX12_241 rfl rfl rfl rfl rfl dX12_same_2 (fun r1 => ?_)
  refine s_if_eq (tgt := 16) dX12_same_5 (by decide) (fun q2 => ?_) (fun q2 => ?_)
  · skip
    refine s_km1 dX12_same_16 ?_
    exact s_ireturn rfl rfl dX12_same_17
  · skip
    refine s_aload0 0 rfl dX12_same_8 ?_
    refine s_iload2 2 rfl dX12_same_9 ?_
    refine s_viI [.inl x2] (fun l b hb hl => cf_X12_isAct G l x2 r1.2 b hb hl) me_X12_isAct vi_RX12_241 rfl rfl rfl rfl rfl dX12_same_10 (fun r3 => ?_)
    refine s_if_ne (tgt := 18) dX12_same_13 (by decide) (fun q4 => ?_) (fun q4 => ?_)
    · skip
      refine s_aload0 0 rfl dX12_same_18 ?_
      refine s_k0 dX12_same_19 ?_
      refine s_iload1 1 rfl dX12_same_20 ?_
      refine s_viV [.inl 0, .inl x1] (fun l b hb hl => cf_X12_makes G l 0 x1 r3.2 b hb hl) me_X12_makes vi_RX12_286 rfl rfl rfl rfl rfl dX12_same_21 (fun r5 => ?_)
      refine s_aload0 0 rfl dX12_same_24 ?_
      refine s_k1 dX12_same_25 ?_
      refine s_iload2 2 rfl dX12_same_26 ?_
      refine s_viV [.inl 1, .inl x2] (fun l b hb hl => cf_X12_makes G l 1 x2 r5 b hb hl) me_X12_makes vi_RX12_286 rfl rfl rfl rfl rfl dX12_same_27 (fun r6 => ?_)
      refine s_aload0 0 rfl dX12_same_30 ?_
      refine s_gr (gR_RX12_166 0) dX12_same_31 ?_
      refine s_k0 dX12_same_34 ?_
      refine s_ial aT_93 (by decide) dX12_same_35 ?_
      refine s_aload0 0 rfl dX12_same_36 ?_
      refine s_gr (gR_RX12_166 0) dX12_same_37 ?_
      refine s_k1 dX12_same_40 ?_
      refine s_ial aT_93 (by decide) dX12_same_41 ?_
      refine s_ic_ne (tgt := 49) dX12_same_42 (by decide) (fun q7 => ?_) (fun q7 => ?_)
      · skip
        refine s_k0 dX12_same_49 ?_
        refine s_istore3 [(3, .inl 0), (0, .inr (.inr (12, 0))), (1, .inl x1), (2, .inl x2)] rfl rfl dX12_same_50 ?_
        refine s_k0 dX12_same_51 ?_
        refine s_istorew [(4, .inl 0), (3, .inl 0), (0, .inr (.inr (12, 0))), (1, .inl x1), (2, .inl x2)] rfl rfl dX12_same_52 ?_
        refine s_loc [2, 1, 0] rfl ?_
        refine sf_X12_same_54 G X  _ (fun u13 u14 h15 => ?_) mFu 0 0 r6
        · skip
          refine s_iload3 1 rfl dX12_same_105 ?_
          refine s_if_eq (tgt := 113) dX12_same_106 (by decide) (fun q16 => ?_) (fun q16 => ?_)
          · skip
            refine s_k0 dX12_same_113 ?_
            exact s_ireturn rfl rfl dX12_same_114
          · skip
            refine s_k1 dX12_same_109 ?_
            refine s_goto (tgt := 114) dX12_same_110 (by decide) ?_
            exact s_ireturn rfl rfl dX12_same_114
      · skip
        refine s_k1 dX12_same_45 ?_
        refine s_goto (tgt := 50) dX12_same_46 (by decide) ?_
        refine s_istore3 [(3, .inl 1), (0, .inr (.inr (12, 0))), (1, .inl x1), (2, .inl x2)] rfl rfl dX12_same_50 ?_
        refine s_k0 dX12_same_51 ?_
        refine s_istorew [(4, .inl 0), (3, .inl 1), (0, .inr (.inr (12, 0))), (1, .inl x1), (2, .inl x2)] rfl rfl dX12_same_52 ?_
        refine s_loc [2, 1, 0] rfl ?_
        refine sf_X12_same_54 G X  _ (fun u17 u18 h19 => ?_) mFu 1 0 r6
        · skip
          refine s_iload3 1 rfl dX12_same_105 ?_
          refine s_if_eq (tgt := 113) dX12_same_106 (by decide) (fun q20 => ?_) (fun q20 => ?_)
          · skip
            refine s_k0 dX12_same_113 ?_
            exact s_ireturn rfl rfl dX12_same_114
          · skip
            refine s_k1 dX12_same_109 ?_
            refine s_goto (tgt := 114) dX12_same_110 (by decide) ?_
            exact s_ireturn rfl rfl dX12_same_114
    · skip
      refine s_km1 dX12_same_16 ?_
      exact s_ireturn rfl rfl dX12_same_17
set_option maxRecDepth 20000 in
theorem cf_X12_same (G : mG) (l : Launch) (x1 : Int32) (x2 : Int32)  (h : mH) (b : Int32 × mH) (hb : f_X12_same x1 x2 h = some b) (hl : ∀ v ∈ ([.inr (.inr (12, 0)), .inl x1, .inl x2] : List mV), mLi v) : mMet G l yX12_same cX12_same 5 (some .int) (mRoom 4 98) [.inr (.inr (12, 0)), .inl x1, .inl x2] h (eI b) :=
  mMet.of (y := yX12_same) (as := [.inr (.inr (12, 0)), .inl x1, .inl x2]) (by decide +kernel) (Nat.le_of_ble_eq_true rfl) (fun X => sf_X12_same G X x1 x2  h) hl b hb
