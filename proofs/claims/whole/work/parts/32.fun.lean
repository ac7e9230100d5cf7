-- DriverBookModel.brings(I)V
def f_X12_brings_72 (k : Int32 → Int32 → mH → Option (mH))  : Nat → Int32 → Int32 → mH → Option (mH)
  | 0, _, _, _ => none
  | n + 1, v1, v2, h =>
    if v2 < 24 then
      if mIn ((24 * v1) + v2) 192 = true then
      if mIn v2 24 = true then
      mLet (uI h 63 0 v2.toNatClampNeg (h.1 73 0 ((24 * v1) + v2).toNatClampNeg)) fun h11 =>
      mLet (uI h11 64 0 v2.toNatClampNeg (h11.1 74 0 ((24 * v1) + v2).toNatClampNeg)) fun h12 =>
      mLet (uI h12 65 0 v2.toNatClampNeg (h12.1 75 0 ((24 * v1) + v2).toNatClampNeg)) fun h13 =>
      mLet (uI h13 66 0 v2.toNatClampNeg (h13.1 76 0 ((24 * v1) + v2).toNatClampNeg)) fun h14 =>
      f_X12_brings_72 k  n v1 (v2 + 1) (uI h14 67 0 v2.toNatClampNeg (h14.1 77 0 ((24 * v1) + v2).toNatClampNeg))
      else none
      else none
    else
      k v1 v2 h
def f_X12_brings_171 (k : Int32 → Int32 → mH → Option (mH))  : Nat → Int32 → Int32 → mH → Option (mH)
  | 0, _, _, _ => none
  | n + 1, v1, v2, h =>
    if v2 < 8 then
      if mIn ((8 * v1) + v2) 64 = true then
      if mIn v2 8 = true then
      f_X12_brings_171 k  n v1 (v2 + 1) (uI h 68 0 v2.toNatClampNeg (h.1 78 0 ((8 * v1) + v2).toNatClampNeg))
      else none
      else none
    else
      k v1 v2 h
def f_X12_brings_202 (k : Int32 → Int32 → mH → Option (mH))  : Nat → Int32 → Int32 → mH → Option (mH)
  | 0, _, _, _ => none
  | n + 1, v1, v2, h =>
    if v2 < (h.1 12 0 30) then
      if mIn ((17 * v1) + v2) 136 = true then
      if mIn v2 17 = true then
      mLet (uI h 69 0 v2.toNatClampNeg (h.1 80 0 ((17 * v1) + v2).toNatClampNeg)) fun h27 =>
      mLet (uI h27 70 0 v2.toNatClampNeg (h27.1 81 0 ((17 * v1) + v2).toNatClampNeg)) fun h28 =>
      f_X12_brings_202 k  n v1 (v2 + 1) (uI h28 71 0 v2.toNatClampNeg (h28.1 82 0 ((17 * v1) + v2).toNatClampNeg))
      else none
      else none
    else
      k v1 v2 h
def f_X12_brings (x1 : Int32) (h : mH) : Option (mH) :=
  if mIn x1 8 = true then
  mLet (uI h 12 0 23 (h.1 72 0 x1.toNatClampNeg)) fun h2 =>
  mLet (uI h2 12 0 30 (h2.1 79 0 x1.toNatClampNeg)) fun h3 =>
  mLet (uI h3 12 0 34 (h3.1 83 0 x1.toNatClampNeg)) fun h4 =>
  mLet (uI h4 12 0 35 (h4.1 84 0 x1.toNatClampNeg)) fun h5 =>
  mLet (uI h5 12 0 36 (h5.1 85 0 x1.toNatClampNeg)) fun h6 =>
  mLet (uI h6 12 0 37 (h6.1 86 0 x1.toNatClampNeg)) fun h7 =>
  f_X12_brings_72 (fun u15 u16 h17 =>
    f_X12_brings_171 (fun u21 u22 h23 =>
      f_X12_brings_202 (fun u29 u30 h31 =>
        some h31)  mFu u21 0 h23)  mFu u15 0 h17)  mFu x1 0 (uI h7 12 0 38 (h7.1 87 0 x1.toNatClampNeg))
  else none
set_option maxRecDepth 20000 in
theorem sf_X12_brings_72 (G : mG) (X : mX)   (k : Int32 → Int32 → mH → Option (mH)) (hk : ∀ (v1 : Int32) (v2 : Int32) (h : mH), Sim G X cX12_brings 3 RX12 none (mRoom 0 0) eV (k v1 v2 h) 169 [(0, .inr (.inr (12, 0))), (1, .inl v1), (2, .inl v2)] [] h) (n : Nat) : ∀ (v1 : Int32) (v2 : Int32) (h : mH), Sim G X cX12_brings 3 RX12 none (mRoom 0 0) eV (f_X12_brings_72 k  n v1 v2 h) 72 [(0, .inr (.inr (12, 0))), (1, .inl v1), (2, .inl v2)] [] h := by
  induction n with
  | zero =>
    intro v1 v2 h
    exact s_none
  | succ n ih =>
    intro v1 v2 h
    unfold f_X12_brings_72
    refine s_iload2 2 rfl dX12_brings_72 ?_
    refine s_bip 24 kb_24 dX12_brings_73 ?_
    refine s_ic_ge (tgt := 169) dX12_brings_75 (by decide) (fun q8 => ?_) (fun q8 => ?_)
    · skip
      exact s_loc [0, 1, 2] rfl (hk v1 v2 h)
    · skip
      refine s_aload0 0 rfl dX12_brings_78 ?_
      refine s_gr (gR_RX12_68 0) dX12_brings_79 ?_
      refine s_iload2 2 rfl dX12_brings_82 ?_
      refine s_aload0 0 rfl dX12_brings_83 ?_
      refine s_gr (gR_RX12_98 0) dX12_brings_84 ?_
      refine s_bip 24 kb_24 dX12_brings_87 ?_
      refine s_iload1 1 rfl dX12_brings_89 ?_
      refine s_imul dX12_brings_90 ?_
      refine s_iload2 2 rfl dX12_brings_91 ?_
      refine s_iadd dX12_brings_92 ?_
      refine s_chk (fun q9 => ?_)
      refine s_ial aT_73 q9 dX12_brings_93 ?_
      refine s_chk (fun q10 => ?_)
      refine s_ias aT_63 q10 dX12_brings_94 ?_
      refine s_aload0 0 rfl dX12_brings_95 ?_
      refine s_gr (gR_RX12_71 0) dX12_brings_96 ?_
      refine s_iload2 2 rfl dX12_brings_99 ?_
      refine s_aload0 0 rfl dX12_brings_100 ?_
      refine s_gr (gR_RX12_101 0) dX12_brings_101 ?_
      refine s_bip 24 kb_24 dX12_brings_104 ?_
      refine s_iload1 1 rfl dX12_brings_106 ?_
      refine s_imul dX12_brings_107 ?_
      refine s_iload2 2 rfl dX12_brings_108 ?_
      refine s_iadd dX12_brings_109 ?_
      refine s_let (fun h11 => ?_)
      refine s_ial aT_74 q9 dX12_brings_110 ?_
      refine s_ias aT_64 q10 dX12_brings_111 ?_
      refine s_aload0 0 rfl dX12_brings_112 ?_
      refine s_gr (gR_RX12_74 0) dX12_brings_113 ?_
      refine s_iload2 2 rfl dX12_brings_116 ?_
      refine s_aload0 0 rfl dX12_brings_117 ?_
      refine s_gr (gR_RX12_104 0) dX12_brings_118 ?_
      refine s_bip 24 kb_24 dX12_brings_121 ?_
      refine s_iload1 1 rfl dX12_brings_123 ?_
      refine s_imul dX12_brings_124 ?_
      refine s_iload2 2 rfl dX12_brings_125 ?_
      refine s_iadd dX12_brings_126 ?_
      refine s_let (fun h12 => ?_)
      refine s_ial aT_75 q9 dX12_brings_127 ?_
      refine s_ias aT_65 q10 dX12_brings_128 ?_
      refine s_aload0 0 rfl dX12_brings_129 ?_
      refine s_gr (gR_RX12_77 0) dX12_brings_130 ?_
      refine s_iload2 2 rfl dX12_brings_133 ?_
      refine s_aload0 0 rfl dX12_brings_134 ?_
      refine s_gr (gR_RX12_107 0) dX12_brings_135 ?_
      refine s_bip 24 kb_24 dX12_brings_138 ?_
      refine s_iload1 1 rfl dX12_brings_140 ?_
      refine s_imul dX12_brings_141 ?_
      refine s_iload2 2 rfl dX12_brings_142 ?_
      refine s_iadd dX12_brings_143 ?_
      refine s_let (fun h13 => ?_)
      refine s_ial aT_76 q9 dX12_brings_144 ?_
      refine s_ias aT_66 q10 dX12_brings_145 ?_
      refine s_aload0 0 rfl dX12_brings_146 ?_
      refine s_gr (gR_RX12_80 0) dX12_brings_147 ?_
      refine s_iload2 2 rfl dX12_brings_150 ?_
      refine s_aload0 0 rfl dX12_brings_151 ?_
      refine s_gr (gR_RX12_110 0) dX12_brings_152 ?_
      refine s_bip 24 kb_24 dX12_brings_155 ?_
      refine s_iload1 1 rfl dX12_brings_157 ?_
      refine s_imul dX12_brings_158 ?_
      refine s_iload2 2 rfl dX12_brings_159 ?_
      refine s_iadd dX12_brings_160 ?_
      refine s_let (fun h14 => ?_)
      refine s_ial aT_77 q9 dX12_brings_161 ?_
      refine s_ias aT_67 q10 dX12_brings_162 ?_
      refine s_iincw 1 (by decide) 2 [(2, .inl (v2 + 1)), (0, .inr (.inr (12, 0))), (1, .inl v1)] rfl rfl rfl dX12_brings_163 ?_
      refine s_goto (tgt := 72) dX12_brings_166 (by decide) ?_
      exact s_loc [1, 2, 0] rfl (ih v1 (v2 + 1) (uI h14 67 0 v2.toNatClampNeg (h14.1 77 0 ((24 * v1) + v2).toNatClampNeg)))
set_option maxRecDepth 20000 in
theorem sf_X12_brings_171 (G : mG) (X : mX)   (k : Int32 → Int32 → mH → Option (mH)) (hk : ∀ (v1 : Int32) (v2 : Int32) (h : mH), Sim G X cX12_brings 3 RX12 none (mRoom 0 0) eV (k v1 v2 h) 200 [(0, .inr (.inr (12, 0))), (1, .inl v1), (2, .inl v2)] [] h) (n : Nat) : ∀ (v1 : Int32) (v2 : Int32) (h : mH), Sim G X cX12_brings 3 RX12 none (mRoom 0 0) eV (f_X12_brings_171 k  n v1 v2 h) 171 [(0, .inr (.inr (12, 0))), (1, .inl v1), (2, .inl v2)] [] h := by
  induction n with
  | zero =>
    intro v1 v2 h
    exact s_none
  | succ n ih =>
    intro v1 v2 h
    unfold f_X12_brings_171
    refine s_iload2 2 rfl dX12_brings_171 ?_
    refine s_bip 8 kb_8 dX12_brings_172 ?_
    refine s_ic_ge (tgt := 200) dX12_brings_174 (by decide) (fun q18 => ?_) (fun q18 => ?_)
    · skip
      exact s_loc [0, 1, 2] rfl (hk v1 v2 h)
    · skip
      refine s_aload0 0 rfl dX12_brings_177 ?_
      refine s_gr (gR_RX12_83 0) dX12_brings_178 ?_
      refine s_iload2 2 rfl dX12_brings_181 ?_
      refine s_aload0 0 rfl dX12_brings_182 ?_
      refine s_gr (gR_RX12_113 0) dX12_brings_183 ?_
      refine s_bip 8 kb_8 dX12_brings_186 ?_
      refine s_iload1 1 rfl dX12_brings_188 ?_
      refine s_imul dX12_brings_189 ?_
      refine s_iload2 2 rfl dX12_brings_190 ?_
      refine s_iadd dX12_brings_191 ?_
      refine s_chk (fun q19 => ?_)
      refine s_ial aT_78 q19 dX12_brings_192 ?_
      refine s_chk (fun q20 => ?_)
      refine s_ias aT_68 q20 dX12_brings_193 ?_
      refine s_iincw 1 (by decide) 2 [(2, .inl (v2 + 1)), (0, .inr (.inr (12, 0))), (1, .inl v1)] rfl rfl rfl dX12_brings_194 ?_
      refine s_goto (tgt := 171) dX12_brings_197 (by decide) ?_
      exact s_loc [1, 2, 0] rfl (ih v1 (v2 + 1) (uI h 68 0 v2.toNatClampNeg (h.1 78 0 ((8 * v1) + v2).toNatClampNeg)))
set_option maxRecDepth 20000 in
theorem sf_X12_brings_202 (G : mG) (X : mX)   (k : Int32 → Int32 → mH → Option (mH)) (hk : ∀ (v1 : Int32) (v2 : Int32) (h : mH), Sim G X cX12_brings 3 RX12 none (mRoom 0 0) eV (k v1 v2 h) 267 [(0, .inr (.inr (12, 0))), (1, .inl v1), (2, .inl v2)] [] h) (n : Nat) : ∀ (v1 : Int32) (v2 : Int32) (h : mH), Sim G X cX12_brings 3 RX12 none (mRoom 0 0) eV (f_X12_brings_202 k  n v1 v2 h) 202 [(0, .inr (.inr (12, 0))), (1, .inl v1), (2, .inl v2)] [] h := by
  induction n with
  | zero =>
    intro v1 v2 h
    exact s_none
  | succ n ih =>
    intro v1 v2 h
    unfold f_X12_brings_202
    refine s_iload2 2 rfl dX12_brings_202 ?_
    refine s_aload0 0 rfl dX12_brings_203 ?_
    refine s_gi gI_RX12_201 dX12_brings_204 ?_
    refine s_ic_ge (tgt := 267) dX12_brings_207 (by decide) (fun q24 => ?_) (fun q24 => ?_)
    · skip
      exact s_loc [0, 1, 2] rfl (hk v1 v2 h)
    · skip
      refine s_aload0 0 rfl dX12_brings_210 ?_
      refine s_gr (gR_RX12_86 0) dX12_brings_211 ?_
      refine s_iload2 2 rfl dX12_brings_214 ?_
      refine s_aload0 0 rfl dX12_brings_215 ?_
      refine s_gr (gR_RX12_119 0) dX12_brings_216 ?_
      refine s_bip 17 kb_17 dX12_brings_219 ?_
      refine s_iload1 1 rfl dX12_brings_221 ?_
      refine s_imul dX12_brings_222 ?_
      refine s_iload2 2 rfl dX12_brings_223 ?_
      refine s_iadd dX12_brings_224 ?_
      refine s_chk (fun q25 => ?_)
      refine s_ial aT_80 q25 dX12_brings_225 ?_
      refine s_chk (fun q26 => ?_)
      refine s_ias aT_69 q26 dX12_brings_226 ?_
      refine s_aload0 0 rfl dX12_brings_227 ?_
      refine s_gr (gR_RX12_89 0) dX12_brings_228 ?_
      refine s_iload2 2 rfl dX12_brings_231 ?_
      refine s_aload0 0 rfl dX12_brings_232 ?_
      refine s_gr (gR_RX12_122 0) dX12_brings_233 ?_
      refine s_bip 17 kb_17 dX12_brings_236 ?_
      refine s_iload1 1 rfl dX12_brings_238 ?_
      refine s_imul dX12_brings_239 ?_
      refine s_iload2 2 rfl dX12_brings_240 ?_
      refine s_iadd dX12_brings_241 ?_
      refine s_let (fun h27 => ?_)
      refine s_ial aT_81 q25 dX12_brings_242 ?_
      refine s_ias aT_70 q26 dX12_brings_243 ?_
      refine s_aload0 0 rfl dX12_brings_244 ?_
      refine s_gr (gR_RX12_92 0) dX12_brings_245 ?_
      refine s_iload2 2 rfl dX12_brings_248 ?_
      refine s_aload0 0 rfl dX12_brings_249 ?_
      refine s_gr (gR_RX12_125 0) dX12_brings_250 ?_
      refine s_bip 17 kb_17 dX12_brings_253 ?_
      refine s_iload1 1 rfl dX12_brings_255 ?_
      refine s_imul dX12_brings_256 ?_
      refine s_iload2 2 rfl dX12_brings_257 ?_
      refine s_iadd dX12_brings_258 ?_
      refine s_let (fun h28 => ?_)
      refine s_ial aT_82 q25 dX12_brings_259 ?_
      refine s_ias aT_71 q26 dX12_brings_260 ?_
      refine s_iincw 1 (by decide) 2 [(2, .inl (v2 + 1)), (0, .inr (.inr (12, 0))), (1, .inl v1)] rfl rfl rfl dX12_brings_261 ?_
      refine s_goto (tgt := 202) dX12_brings_264 (by decide) ?_
      exact s_loc [1, 2, 0] rfl (ih v1 (v2 + 1) (uI h28 71 0 v2.toNatClampNeg (h28.1 82 0 ((17 * v1) + v2).toNatClampNeg)))
set_option maxRecDepth 20000 in
theorem sf_X12_brings (G : mG) (X : mX) (x1 : Int32)  (h : mH) : Sim G X cX12_brings 3 RX12 none (mRoom 0 0) eV (f_X12_brings x1 h) 0 [(0, .inr (.inr (12, 0))), (1, .inl x1)] [] h := by
  unfold f_X12_brings
  refine s_aload0 0 rfl dX12_brings_0 ?_
  refine s_aload0 0 rfl dX12_brings_1 ?_
  refine s_gr (gR_RX12_95 0) dX12_brings_2 ?_
  refine s_iload1 1 rfl dX12_brings_5 ?_
  refine s_chk (fun q1 => ?_)
  refine s_ial aT_72 q1 dX12_brings_6 ?_
  refine s_pi pI_RX12_198 dX12_brings_7 ?_
  refine s_aload0 0 rfl dX12_brings_10 ?_
  refine s_aload0 0 rfl dX12_brings_11 ?_
  refine s_gr (gR_RX12_116 0) dX12_brings_12 ?_
  refine s_iload1 1 rfl dX12_brings_15 ?_
  refine s_let (fun h2 => ?_)
  refine s_ial aT_79 q1 dX12_brings_16 ?_
  refine s_pi pI_RX12_201 dX12_brings_17 ?_
  refine s_aload0 0 rfl dX12_brings_20 ?_
  refine s_aload0 0 rfl dX12_brings_21 ?_
  refine s_gr (gR_RX12_128 0) dX12_brings_22 ?_
  refine s_iload1 1 rfl dX12_brings_25 ?_
  refine s_let (fun h3 => ?_)
  refine s_ial aT_83 q1 dX12_brings_26 ?_
  refine s_pi pI_RX12_204 dX12_brings_27 ?_
  refine s_aload0 0 rfl dX12_brings_30 ?_
  refine s_aload0 0 rfl dX12_brings_31 ?_
  refine s_gr (gR_RX12_131 0) dX12_brings_32 ?_
  refine s_iload1 1 rfl dX12_brings_35 ?_
  refine s_let (fun h4 => ?_)
  refine s_ial aT_84 q1 dX12_brings_36 ?_
  refine s_pi pI_RX12_207 dX12_brings_37 ?_
  refine s_aload0 0 rfl dX12_brings_40 ?_
  refine s_aload0 0 rfl dX12_brings_41 ?_
  refine s_gr (gR_RX12_134 0) dX12_brings_42 ?_
  refine s_iload1 1 rfl dX12_brings_45 ?_
  refine s_let (fun h5 => ?_)
  refine s_ial aT_85 q1 dX12_brings_46 ?_
  refine s_pi pI_RX12_210 dX12_brings_47 ?_
  refine s_aload0 0 rfl dX12_brings_50 ?_
  refine s_aload0 0 rfl dX12_brings_51 ?_
  refine s_gr (gR_RX12_137 0) dX12_brings_52 ?_
  refine s_iload1 1 rfl dX12_brings_55 ?_
  refine s_let (fun h6 => ?_)
  refine s_ial aT_86 q1 dX12_brings_56 ?_
  refine s_pi pI_RX12_213 dX12_brings_57 ?_
  refine s_aload0 0 rfl dX12_brings_60 ?_
  refine s_aload0 0 rfl dX12_brings_61 ?_
  refine s_gr (gR_RX12_140 0) dX12_brings_62 ?_
  refine s_iload1 1 rfl dX12_brings_65 ?_
  refine s_let (fun h7 => ?_)
  refine s_ial aT_87 q1 dX12_brings_66 ?_
  refine s_pi pI_RX12_216 dX12_brings_67 ?_
  refine s_k0 dX12_brings_70 ?_
  refine s_istore2 [(2, .inl 0), (0, .inr (.inr (12, 0))), (1, .inl x1)] rfl rfl dX12_brings_71 ?_
  refine s_loc [1, 2, 0] rfl ?_
  refine sf_X12_brings_72 G X  _ (fun u15 u16 h17 => ?_) mFu x1 0 (uI h7 12 0 38 (h7.1 87 0 x1.toNatClampNeg))
  · skip
    refine s_k0 dX12_brings_169 ?_
    refine s_istore2 [(2, .inl 0), (0, .inr (.inr (12, 0))), (1, .inl u15)] rfl rfl dX12_brings_170 ?_
    refine s_loc [1, 2, 0] rfl ?_
    refine sf_X12_brings_171 G X  _ (fun u21 u22 h23 => ?_) mFu u15 0 h17
    · skip
      refine s_k0 dX12_brings_200 ?_
      refine s_istore2 [(2, .inl 0), (0, .inr (.inr (12, 0))), (1, .inl u21)] rfl rfl dX12_brings_201 ?_
      refine s_loc [1, 2, 0] rfl ?_
      refine sf_X12_brings_202 G X  _ (fun u29 u30 h31 => ?_) mFu u21 0 h23
      · skip
        exact s_return rfl rfl dX12_brings_267
set_option maxRecDepth 20000 in
theorem cf_X12_brings (G : mG) (l : Launch) (x1 : Int32)  (h : mH) (b : mH) (hb : f_X12_brings x1 h = some b) (hl : ∀ v ∈ ([.inr (.inr (12, 0)), .inl x1] : List mV), mLi v) : mMet G l yX12_brings cX12_brings 3 none (mRoom 0 0) [.inr (.inr (12, 0)), .inl x1] h (eV b) :=
  mMet.of (y := yX12_brings) (as := [.inr (.inr (12, 0)), .inl x1]) (by decide +kernel) (Nat.le_of_ble_eq_true rfl) (fun X => sf_X12_brings G X x1  h) hl b hb
-- DriverBookModel.setTo(II)I
def f_X12_setTo_8 (k : Int32 → Int32 → Int32 → Int32 → mH → Option (Int32 × mH))  : Nat → Int32 → Int32 → Int32 → Int32 → mH → Option (Int32 × mH)
  | 0, _, _, _, _, _ => none
  | n + 1, v1, v2, v3, v4, h =>
    if mIn v1 6 = true then
    if v4 < ((12 * v1) + (h.1 58 0 v1.toNatClampNeg)) then
      if mIn v4 72 = true then
      if (h.1 59 0 v4.toNatClampNeg) = 0 then
        if (h.1 60 0 v4.toNatClampNeg) = v2 then
          f_X12_setTo_8 k  n v1 v2 (h.1 61 0 v4.toNatClampNeg) (v4 + 1) h
        else
          f_X12_setTo_8 k  n v1 v2 v3 (v4 + 1) h
      else
        f_X12_setTo_8 k  n v1 v2 v3 (v4 + 1) h
      else none
    else
      k v1 v2 v3 v4 h
    else none
def f_X12_setTo (x1 : Int32) (x2 : Int32) (h : mH) : Option (Int32 × mH) :=
  f_X12_setTo_8 (fun u6 u7 u8 u9 h10 =>
    some (u8, h10))  mFu x1 x2 (-1) (12 * x1) h
set_option maxRecDepth 20000 in
theorem sf_X12_setTo_8 (G : mG) (X : mX)   (k : Int32 → Int32 → Int32 → Int32 → mH → Option (Int32 × mH)) (hk : ∀ (v1 : Int32) (v2 : Int32) (v3 : Int32) (v4 : Int32) (h : mH), Sim G X cX12_setTo 5 RX12 (some .int) (mRoom 0 0) eI (k v1 v2 v3 v4 h) 63 [(0, .inr (.inr (12, 0))), (1, .inl v1), (2, .inl v2), (3, .inl v3), (4, .inl v4)] [] h) (n : Nat) : ∀ (v1 : Int32) (v2 : Int32) (v3 : Int32) (v4 : Int32) (h : mH), Sim G X cX12_setTo 5 RX12 (some .int) (mRoom 0 0) eI (f_X12_setTo_8 k  n v1 v2 v3 v4 h) 8 [(0, .inr (.inr (12, 0))), (1, .inl v1), (2, .inl v2), (3, .inl v3), (4, .inl v4)] [] h := by
  induction n with
  | zero =>
    intro v1 v2 v3 v4 h
    exact s_none
  | succ n ih =>
    intro v1 v2 v3 v4 h
    unfold f_X12_setTo_8
    refine s_iload 4 rfl dX12_setTo_8 ?_
    refine s_bip 12 kb_12 dX12_setTo_10 ?_
    refine s_iload1 1 rfl dX12_setTo_12 ?_
    refine s_imul dX12_setTo_13 ?_
    refine s_aload0 0 rfl dX12_setTo_14 ?_
    refine s_gr (gR_RX12_50 0) dX12_setTo_15 ?_
    refine s_iload1 1 rfl dX12_setTo_18 ?_
    refine s_chk (fun q1 => ?_)
    refine s_ial aT_58 q1 dX12_setTo_19 ?_
    refine s_iadd dX12_setTo_20 ?_
    refine s_ic_ge (tgt := 63) dX12_setTo_21 (by decide) (fun q2 => ?_) (fun q2 => ?_)
    · skip
      exact s_loc [0, 1, 2, 3, 4] rfl (hk v1 v2 v3 v4 h)
    · skip
      refine s_aload0 0 rfl dX12_setTo_24 ?_
      refine s_gr (gR_RX12_53 0) dX12_setTo_25 ?_
      refine s_iload 4 rfl dX12_setTo_28 ?_
      refine s_chk (fun q3 => ?_)
      refine s_ial aT_59 q3 dX12_setTo_30 ?_
      refine s_if_ne (tgt := 55) dX12_setTo_31 (by decide) (fun q4 => ?_) (fun q4 => ?_)
      · skip
        refine s_iload3 3 rfl dX12_setTo_55 ?_
        refine s_istore3 [(3, .inl v3), (0, .inr (.inr (12, 0))), (1, .inl v1), (2, .inl v2), (4, .inl v4)] rfl rfl dX12_setTo_56 ?_
        refine s_iincw 1 (by decide) 4 [(4, .inl (v4 + 1)), (3, .inl v3), (0, .inr (.inr (12, 0))), (1, .inl v1), (2, .inl v2)] rfl rfl rfl dX12_setTo_57 ?_
        refine s_goto (tgt := 8) dX12_setTo_60 (by decide) ?_
        exact s_loc [2, 3, 4, 1, 0] rfl (ih v1 v2 v3 (v4 + 1) h)
      · skip
        refine s_aload0 0 rfl dX12_setTo_34 ?_
        refine s_gr (gR_RX12_56 0) dX12_setTo_35 ?_
        refine s_iload 4 rfl dX12_setTo_38 ?_
        refine s_ial aT_60 q3 dX12_setTo_40 ?_
        refine s_iload2 2 rfl dX12_setTo_41 ?_
        refine s_ic_ne (tgt := 55) dX12_setTo_42 (by decide) (fun q5 => ?_) (fun q5 => ?_)
        · skip
          refine s_iload3 3 rfl dX12_setTo_55 ?_
          refine s_istore3 [(3, .inl v3), (0, .inr (.inr (12, 0))), (1, .inl v1), (2, .inl v2), (4, .inl v4)] rfl rfl dX12_setTo_56 ?_
          refine s_iincw 1 (by decide) 4 [(4, .inl (v4 + 1)), (3, .inl v3), (0, .inr (.inr (12, 0))), (1, .inl v1), (2, .inl v2)] rfl rfl rfl dX12_setTo_57 ?_
          refine s_goto (tgt := 8) dX12_setTo_60 (by decide) ?_
          exact s_loc [2, 3, 4, 1, 0] rfl (ih v1 v2 v3 (v4 + 1) h)
        · skip
          refine s_aload0 0 rfl dX12_setTo_45 ?_
          refine s_gr (gR_RX12_59 0) dX12_setTo_46 ?_
          refine s_iload 4 rfl dX12_setTo_49 ?_
          refine s_ial aT_61 q3 dX12_setTo_51 ?_
          refine s_goto (tgt := 56) dX12_setTo_52 (by decide) ?_
          refine s_istore3 [(3, .inl (h.1 61 0 v4.toNatClampNeg)), (0, .inr (.inr (12, 0))), (1, .inl v1), (2, .inl v2), (4, .inl v4)] rfl rfl dX12_setTo_56 ?_
          refine s_iincw 1 (by decide) 4 [(4, .inl (v4 + 1)), (3, .inl (h.1 61 0 v4.toNatClampNeg)), (0, .inr (.inr (12, 0))), (1, .inl v1), (2, .inl v2)] rfl rfl rfl dX12_setTo_57 ?_
          refine s_goto (tgt := 8) dX12_setTo_60 (by decide) ?_
          exact s_loc [2, 3, 4, 1, 0] rfl (ih v1 v2 (h.1 61 0 v4.toNatClampNeg) (v4 + 1) h)
set_option maxRecDepth 20000 in
theorem sf_X12_setTo (G : mG) (X : mX) (x1 : Int32) (x2 : Int32)  (h : mH) : Sim G X cX12_setTo 5 RX12 (some .int) (mRoom 0 0) eI (f_X12_setTo x1 x2 h) 0 [(0, .inr (.inr (12, 0))), (1, .inl x1), (2, .inl x2)] [] h := by
  unfold f_X12_setTo
  refine s_km1 dX12_setTo_0 ?_
  refine s_istore3 [(3, .inl (-1)), (0, .inr (.inr (12, 0))), (1, .inl x1), (2, .inl x2)] rfl rfl dX12_setTo_1 ?_
  refine s_bip 12 kb_12 dX12_setTo_2 ?_
  refine s_iload1 2 rfl dX12_setTo_4 ?_
  refine s_imul dX12_setTo_5 ?_
  refine s_istorew [(4, .inl (12 * x1)), (3, .inl (-1)), (0, .inr (.inr (12, 0))), (1, .inl x1), (2, .inl x2)] rfl rfl dX12_setTo_6 ?_
  refine s_loc [2, 3, 4, 1, 0] rfl ?_
  refine sf_X12_setTo_8 G X  _ (fun u6 u7 u8 u9 h10 => ?_) mFu x1 x2 (-1) (12 * x1) h
  · skip
    refine s_iload3 3 rfl dX12_setTo_63 ?_
    exact s_ireturn rfl rfl dX12_setTo_64
set_option maxRecDepth 20000 in
theorem cf_X12_setTo (G : mG) (l : Launch) (x1 : Int32) (x2 : Int32)  (h : mH) (b : Int32 × mH) (hb : f_X12_setTo x1 x2 h = some b) (hl : ∀ v ∈ ([.inr (.inr (12, 0)), .inl x1, .inl x2] : List mV), mLi v) : mMet G l yX12_setTo cX12_setTo 5 (some .int) (mRoom 0 0) [.inr (.inr (12, 0)), .inl x1, .inl x2] h (eI b) :=
  mMet.of (y := yX12_setTo) (as := [.inr (.inr (12, 0)), .inl x1, .inl x2]) (by decide +kernel) (Nat.le_of_ble_eq_true rfl) (fun X => sf_X12_setTo G X x1 x2  h) hl b hb
-- DriverBookModel.astray(II)I
def f_X12_astray_2 (k : Int32 → Int32 → Int32 → mH → Option (Int32 × mH))  : Nat → Int32 → Int32 → Int32 → mH → Option (Int32 × mH)
  | 0, _, _, _, _ => none
  | n + 1, v1, v2, v3, h =>
    if v3 < (h.1 12 0 2) then
      if mIn v3 24 = true then
      if (h.1 49 0 v3.toNatClampNeg) = 5 then
        if mIn (144 + v3) 192 = true then
        (f_X12_setTo v1 v3 h).bind fun r23 =>
        (f_X12_setTo v2 v3 r23.2).bind fun r24 =>
        if r23.1 = (-1) then
          if r24.1 = (-1) then
            if (h.1 64 0 v3.toNatClampNeg) = (h.1 74 0 (144 + v3).toNatClampNeg) then
              f_X12_astray_2 k  n v1 v2 (v3 + 1) r24.2
            else
              some (v3, r24.2)
          else
            if (h.1 64 0 v3.toNatClampNeg) = r24.1 then
              f_X12_astray_2 k  n v1 v2 (v3 + 1) r24.2
            else
              some (v3, r24.2)
        else
          if (h.1 64 0 v3.toNatClampNeg) = r23.1 then
            f_X12_astray_2 k  n v1 v2 (v3 + 1) r24.2
          else
            if r24.1 = (-1) then
              some (v3, r24.2)
            else
              if (h.1 64 0 v3.toNatClampNeg) = r24.1 then
                f_X12_astray_2 k  n v1 v2 (v3 + 1) r24.2
              else
                some (v3, r24.2)
        else none
      else
        if mIn (144 + v3) 192 = true then
        (f_X12_setTo v1 v3 h).bind fun r5 =>
        (f_X12_setTo v2 v3 r5.2).bind fun r6 =>
        if r5.1 = (-1) then
          if r6.1 = (-1) then
            if (h.1 63 0 v3.toNatClampNeg) = (h.1 73 0 (144 + v3).toNatClampNeg) then
              if (r6.2.1 49 0 v3.toNatClampNeg) = 0 then
                f_X12_astray_2 k  n v1 v2 (v3 + 1) r6.2
              else
                f_X12_astray_2 k  n v1 v2 (v3 + 1) r6.2
            else
              if (r6.2.1 49 0 v3.toNatClampNeg) = 0 then
                some (v3, r6.2)
              else
                f_X12_astray_2 k  n v1 v2 (v3 + 1) r6.2
          else
            if (h.1 63 0 v3.toNatClampNeg) = r6.1 then
              if (r6.2.1 49 0 v3.toNatClampNeg) = 0 then
                f_X12_astray_2 k  n v1 v2 (v3 + 1) r6.2
              else
                f_X12_astray_2 k  n v1 v2 (v3 + 1) r6.2
            else
              if (r6.2.1 49 0 v3.toNatClampNeg) = 0 then
                some (v3, r6.2)
              else
                f_X12_astray_2 k  n v1 v2 (v3 + 1) r6.2
        else
          if (h.1 63 0 v3.toNatClampNeg) = r5.1 then
            if (r6.2.1 49 0 v3.toNatClampNeg) = 0 then
              f_X12_astray_2 k  n v1 v2 (v3 + 1) r6.2
            else
              f_X12_astray_2 k  n v1 v2 (v3 + 1) r6.2
          else
            if r6.1 = (-1) then
              if (r6.2.1 49 0 v3.toNatClampNeg) = 0 then
                some (v3, r6.2)
              else
                f_X12_astray_2 k  n v1 v2 (v3 + 1) r6.2
            else
              if (h.1 63 0 v3.toNatClampNeg) = r6.1 then
                if (r6.2.1 49 0 v3.toNatClampNeg) = 0 then
                  f_X12_astray_2 k  n v1 v2 (v3 + 1) r6.2
                else
                  f_X12_astray_2 k  n v1 v2 (v3 + 1) r6.2
              else
                if (r6.2.1 49 0 v3.toNatClampNeg) = 0 then
                  some (v3, r6.2)
                else
                  f_X12_astray_2 k  n v1 v2 (v3 + 1) r6.2
        else none
      else none
    else
      k v1 v2 v3 h
def f_X12_astray (x1 : Int32) (x2 : Int32) (h : mH) : Option (Int32 × mH) :=
  f_X12_astray_2 (fun u32 u33 u34 h35 =>
    some ((-1), h35))  mFu x1 x2 0 h
set_option maxRecDepth 20000 in
theorem sf_X12_astray_2 (G : mG) (X : mX)   (k : Int32 → Int32 → Int32 → mH → Option (Int32 × mH)) (hk : ∀ (v1 : Int32) (v2 : Int32) (v3 : Int32) (h : mH), Sim G X cX12_astray 10 RX12 (some .int) (mRoom 1 24) eI (k v1 v2 v3 h) 182 [(0, .inr (.inr (12, 0))), (1, .inl v1), (2, .inl v2), (3, .inl v3)] [] h) (n : Nat) : ∀ (v1 : Int32) (v2 : Int32) (v3 : Int32) (h : mH), Sim G X cX12_astray 10 RX12 (some .int) (mRoom 1 24) eI (f_X12_astray_2 k  n v1 v2 v3 h) 2 [(0, .inr (.inr (12, 0))), (1, .inl v1), (2, .inl v2), (3, .inl v3)] [] h := by
  induction n with
  | zero =>
    intro v1 v2 v3 h
    exact s_none
  | succ n ih =>
    intro v1 v2 v3 h
    unfold f_X12_astray_2
    refine s_iload3 3 rfl dX12_astray_2 ?_
    refine s_aload0 0 rfl dX12_astray_3 ?_
    refine s_gi gI_RX12_181 dX12_astray_4 ?_
    refine s_ic_ge (tgt := 182) dX12_astray_7 (by decide) (fun q1 => ?_) (fun q1 => ?_)
    · skip
      exact s_loc [0, 1, 2, 3] rfl (hk v1 v2 v3 h)
    · skip
      refine s_aload0 0 rfl dX12_astray_10 ?_
      refine s_gr (gR_RX12_23 0) dX12_astray_11 ?_
      refine s_iload3 3 rfl dX12_astray_14 ?_
      refine s_chk (fun q2 => ?_)
      refine s_ial aT_49 q2 dX12_astray_15 ?_
      refine s_k5 dX12_astray_16 ?_
      refine s_ic_ne (tgt := 24) dX12_astray_17 (by decide) (fun q3 => ?_) (fun q3 => ?_)
      · skip
        refine s_k0 dX12_astray_24 ?_
        refine s_istorew [(4, .inl 0), (0, .inr (.inr (12, 0))), (1, .inl v1), (2, .inl v2), (3, .inl v3)] rfl rfl dX12_astray_25 ?_
        refine s_iload 0 rfl dX12_astray_27 ?_
        refine s_if_eq_P (tgt := 41) (by decide) dX12_astray_29 (by decide) ?_
        refine s_aload0 1 rfl dX12_astray_41 ?_
        refine s_gr (gR_RX12_68 0) dX12_astray_42 ?_
        refine s_iload3 4 rfl dX12_astray_45 ?_
        refine s_ial aT_63 q2 dX12_astray_46 ?_
        refine s_istorew [(5, .inl (h.1 63 0 v3.toNatClampNeg)), (4, .inl 0), (0, .inr (.inr (12, 0))), (1, .inl v1), (2, .inl v2), (3, .inl v3)] rfl rfl dX12_astray_47 ?_
        refine s_iload 1 rfl dX12_astray_49 ?_
        refine s_if_eq_P (tgt := 67) (by decide) dX12_astray_51 (by decide) ?_
        refine s_aload0 2 rfl dX12_astray_67 ?_
        refine s_gr (gR_RX12_98 0) dX12_astray_68 ?_
        refine s_sip 144 ks_144 dX12_astray_71 ?_
        refine s_iload3 5 rfl dX12_astray_74 ?_
        refine s_iadd dX12_astray_75 ?_
        refine s_chk (fun q4 => ?_)
        refine s_ial aT_73 q4 dX12_astray_76 ?_
        refine s_istorew [(6, .inl (h.1 73 0 (144 + v3).toNatClampNeg)), (5, .inl (h.1 63 0 v3.toNatClampNeg)), (4, .inl 0), (0, .inr (.inr (12, 0))), (1, .inl v1), (2, .inl v2), (3, .inl v3)] rfl rfl dX12_astray_77 ?_
        refine s_aload0 3 rfl dX12_astray_79 ?_
        refine s_iload1 4 rfl dX12_astray_80 ?_
        refine s_iload3 6 rfl dX12_astray_81 ?_
        refine s_viI [.inl v1, .inl v3] (fun l b hb hl => cf_X12_setTo G l v1 v3 h b hb hl) me_X12_setTo vi_RX12_327 rfl rfl rfl rfl rfl dX12_astray_82 (fun r5 => ?_)
        refine s_istorew [(7, .inl r5.1), (6, .inl (h.1 73 0 (144 + v3).toNatClampNeg)), (5, .inl (h.1 63 0 v3.toNatClampNeg)), (4, .inl 0), (0, .inr (.inr (12, 0))), (1, .inl v1), (2, .inl v2), (3, .inl v3)] rfl rfl dX12_astray_85 ?_
        refine s_aload0 4 rfl dX12_astray_87 ?_
        refine s_iload2 6 rfl dX12_astray_88 ?_
        refine s_iload3 7 rfl dX12_astray_89 ?_
        refine s_viI [.inl v2, .inl v3] (fun l b hb hl => cf_X12_setTo G l v2 v3 r5.2 b hb hl) me_X12_setTo vi_RX12_327 rfl rfl rfl rfl rfl dX12_astray_90 (fun r6 => ?_)
        refine s_istorew [(8, .inl r6.1), (7, .inl r5.1), (6, .inl (h.1 73 0 (144 + v3).toNatClampNeg)), (5, .inl (h.1 63 0 v3.toNatClampNeg)), (4, .inl 0), (0, .inr (.inr (12, 0))), (1, .inl v1), (2, .inl v2), (3, .inl v3)] rfl rfl dX12_astray_93 ?_
        refine s_iload 1 rfl dX12_astray_95 ?_
        refine s_km1 dX12_astray_97 ?_
        refine s_ic_ne (tgt := 122) dX12_astray_98 (by decide) (fun q7 => ?_) (fun q7 => ?_)
        · skip
          refine s_iload 1 rfl dX12_astray_122 ?_
          refine s_km1 dX12_astray_124 ?_
          refine s_ic_eq_N (tgt := 135) q7 dX12_astray_125 (by decide) ?_
          refine s_iload 3 rfl dX12_astray_128 ?_
          refine s_iload 1 rfl dX12_astray_130 ?_
          refine s_ic_eq (tgt := 148) dX12_astray_132 (by decide) (fun q8 => ?_) (fun q8 => ?_)
          · skip
            refine s_k1 dX12_astray_148 ?_
            refine s_goto (tgt := 153) dX12_astray_149 (by decide) ?_
            refine s_istorew [(9, .inl 1), (8, .inl r6.1), (7, .inl r5.1), (6, .inl (h.1 73 0 (144 + v3).toNatClampNeg)), (5, .inl (h.1 63 0 v3.toNatClampNeg)), (4, .inl 0), (0, .inr (.inr (12, 0))), (1, .inl v1), (2, .inl v2), (3, .inl v3)] rfl rfl dX12_astray_153 ?_
            refine s_iload 5 rfl dX12_astray_155 ?_
            refine s_if_ne_P (tgt := 169) (by decide) dX12_astray_157 (by decide) ?_
            refine s_aload0 6 rfl dX12_astray_160 ?_
            refine s_gr (gR_RX12_23 0) dX12_astray_161 ?_
            refine s_iload3 9 rfl dX12_astray_164 ?_
            refine s_ial aT_49 q2 dX12_astray_165 ?_
            refine s_if_ne (tgt := 176) dX12_astray_166 (by decide) (fun q9 => ?_) (fun q9 => ?_)
            · skip
              refine s_iincw 1 (by decide) 9 [(3, .inl (v3 + 1)), (9, .inl 1), (8, .inl r6.1), (7, .inl r5.1), (6, .inl (h.1 73 0 (144 + v3).toNatClampNeg)), (5, .inl (h.1 63 0 v3.toNatClampNeg)), (4, .inl 0), (0, .inr (.inr (12, 0))), (1, .inl v1), (2, .inl v2)] rfl rfl rfl dX12_astray_176 ?_
              refine s_goto (tgt := 2) dX12_astray_179 (by decide) ?_
              exact s_loc [7, 8, 9, 0] rfl (ih v1 v2 (v3 + 1) r6.2)
            · skip
              refine s_iload 0 rfl dX12_astray_169 ?_
              refine s_if_ne_N (tgt := 176) (by decide) dX12_astray_171 (by decide) ?_
              refine s_iincw 1 (by decide) 9 [(3, .inl (v3 + 1)), (9, .inl 1), (8, .inl r6.1), (7, .inl r5.1), (6, .inl (h.1 73 0 (144 + v3).toNatClampNeg)), (5, .inl (h.1 63 0 v3.toNatClampNeg)), (4, .inl 0), (0, .inr (.inr (12, 0))), (1, .inl v1), (2, .inl v2)] rfl rfl rfl dX12_astray_176 ?_
              refine s_goto (tgt := 2) dX12_astray_179 (by decide) ?_
              exact s_loc [7, 8, 9, 0] rfl (ih v1 v2 (v3 + 1) r6.2)
          · skip
            refine s_iload 0 rfl dX12_astray_135 ?_
            refine s_km1 dX12_astray_137 ?_
            refine s_ic_eq (tgt := 152) dX12_astray_138 (by decide) (fun q10 => ?_) (fun q10 => ?_)
            · skip
              refine s_k0 dX12_astray_152 ?_
              refine s_istorew [(9, .inl 0), (8, .inl r6.1), (7, .inl r5.1), (6, .inl (h.1 73 0 (144 + v3).toNatClampNeg)), (5, .inl (h.1 63 0 v3.toNatClampNeg)), (4, .inl 0), (0, .inr (.inr (12, 0))), (1, .inl v1), (2, .inl v2), (3, .inl v3)] rfl rfl dX12_astray_153 ?_
              refine s_iload 5 rfl dX12_astray_155 ?_
              refine s_if_ne_P (tgt := 169) (by decide) dX12_astray_157 (by decide) ?_
              refine s_aload0 6 rfl dX12_astray_160 ?_
              refine s_gr (gR_RX12_23 0) dX12_astray_161 ?_
              refine s_iload3 9 rfl dX12_astray_164 ?_
              refine s_ial aT_49 q2 dX12_astray_165 ?_
              refine s_if_ne (tgt := 176) dX12_astray_166 (by decide) (fun q11 => ?_) (fun q11 => ?_)
              · skip
                refine s_iincw 1 (by decide) 9 [(3, .inl (v3 + 1)), (9, .inl 0), (8, .inl r6.1), (7, .inl r5.1), (6, .inl (h.1 73 0 (144 + v3).toNatClampNeg)), (5, .inl (h.1 63 0 v3.toNatClampNeg)), (4, .inl 0), (0, .inr (.inr (12, 0))), (1, .inl v1), (2, .inl v2)] rfl rfl rfl dX12_astray_176 ?_
                refine s_goto (tgt := 2) dX12_astray_179 (by decide) ?_
                exact s_loc [7, 8, 9, 0] rfl (ih v1 v2 (v3 + 1) r6.2)
              · skip
                refine s_iload 0 rfl dX12_astray_169 ?_
                refine s_if_ne_P (tgt := 176) (by decide) dX12_astray_171 (by decide) ?_
                refine s_iload3 9 rfl dX12_astray_174 ?_
                exact s_ireturn rfl rfl dX12_astray_175
            · skip
              refine s_iload 3 rfl dX12_astray_141 ?_
              refine s_iload 0 rfl dX12_astray_143 ?_
              refine s_ic_ne (tgt := 152) dX12_astray_145 (by decide) (fun q12 => ?_) (fun q12 => ?_)
              · skip
                refine s_k0 dX12_astray_152 ?_
                refine s_istorew [(9, .inl 0), (8, .inl r6.1), (7, .inl r5.1), (6, .inl (h.1 73 0 (144 + v3).toNatClampNeg)), (5, .inl (h.1 63 0 v3.toNatClampNeg)), (4, .inl 0), (0, .inr (.inr (12, 0))), (1, .inl v1), (2, .inl v2), (3, .inl v3)] rfl rfl dX12_astray_153 ?_
                refine s_iload 5 rfl dX12_astray_155 ?_
                refine s_if_ne_P (tgt := 169) (by decide) dX12_astray_157 (by decide) ?_
                refine s_aload0 6 rfl dX12_astray_160 ?_
                refine s_gr (gR_RX12_23 0) dX12_astray_161 ?_
                refine s_iload3 9 rfl dX12_astray_164 ?_
                refine s_ial aT_49 q2 dX12_astray_165 ?_
                refine s_if_ne (tgt := 176) dX12_astray_166 (by decide) (fun q13 => ?_) (fun q13 => ?_)
                · skip
                  refine s_iincw 1 (by decide) 9 [(3, .inl (v3 + 1)), (9, .inl 0), (8, .inl r6.1), (7, .inl r5.1), (6, .inl (h.1 73 0 (144 + v3).toNatClampNeg)), (5, .inl (h.1 63 0 v3.toNatClampNeg)), (4, .inl 0), (0, .inr (.inr (12, 0))), (1, .inl v1), (2, .inl v2)] rfl rfl rfl dX12_astray_176 ?_
                  refine s_goto (tgt := 2) dX12_astray_179 (by decide) ?_
                  exact s_loc [7, 8, 9, 0] rfl (ih v1 v2 (v3 + 1) r6.2)
                · skip
                  refine s_iload 0 rfl dX12_astray_169 ?_
                  refine s_if_ne_P (tgt := 176) (by decide) dX12_astray_171 (by decide) ?_
                  refine s_iload3 9 rfl dX12_astray_174 ?_
                  exact s_ireturn rfl rfl dX12_astray_175
              · skip
                refine s_k1 dX12_astray_148 ?_
                refine s_goto (tgt := 153) dX12_astray_149 (by decide) ?_
                refine s_istorew [(9, .inl 1), (8, .inl r6.1), (7, .inl r5.1), (6, .inl (h.1 73 0 (144 + v3).toNatClampNeg)), (5, .inl (h.1 63 0 v3.toNatClampNeg)), (4, .inl 0), (0, .inr (.inr (12, 0))), (1, .inl v1), (2, .inl v2), (3, .inl v3)] rfl rfl dX12_astray_153 ?_
                refine s_iload 5 rfl dX12_astray_155 ?_
                refine s_if_ne_P (tgt := 169) (by decide) dX12_astray_157 (by decide) ?_
                refine s_aload0 6 rfl dX12_astray_160 ?_
                refine s_gr (gR_RX12_23 0) dX12_astray_161 ?_
                refine s_iload3 9 rfl dX12_astray_164 ?_
                refine s_ial aT_49 q2 dX12_astray_165 ?_
                refine s_if_ne (tgt := 176) dX12_astray_166 (by decide) (fun q14 => ?_) (fun q14 => ?_)
                · skip
                  refine s_iincw 1 (by decide) 9 [(3, .inl (v3 + 1)), (9, .inl 1), (8, .inl r6.1), (7, .inl r5.1), (6, .inl (h.1 73 0 (144 + v3).toNatClampNeg)), (5, .inl (h.1 63 0 v3.toNatClampNeg)), (4, .inl 0), (0, .inr (.inr (12, 0))), (1, .inl v1), (2, .inl v2)] rfl rfl rfl dX12_astray_176 ?_
                  refine s_goto (tgt := 2) dX12_astray_179 (by decide) ?_
                  exact s_loc [7, 8, 9, 0] rfl (ih v1 v2 (v3 + 1) r6.2)
                · skip
                  refine s_iload 0 rfl dX12_astray_169 ?_
                  refine s_if_ne_N (tgt := 176) (by decide) dX12_astray_171 (by decide) ?_
                  refine s_iincw 1 (by decide) 9 [(3, .inl (v3 + 1)), (9, .inl 1), (8, .inl r6.1), (7, .inl r5.1), (6, .inl (h.1 73 0 (144 + v3).toNatClampNeg)), (5, .inl (h.1 63 0 v3.toNatClampNeg)), (4, .inl 0), (0, .inr (.inr (12, 0))), (1, .inl v1), (2, .inl v2)] rfl rfl rfl dX12_astray_176 ?_
                  refine s_goto (tgt := 2) dX12_astray_179 (by decide) ?_
                  exact s_loc [7, 8, 9, 0] rfl (ih v1 v2 (v3 + 1) r6.2)
        · skip
          refine s_iload 0 rfl dX12_astray_101 ?_
          refine s_km1 dX12_astray_103 ?_
          refine s_ic_ne (tgt := 122) dX12_astray_104 (by decide) (fun q15 => ?_) (fun q15 => ?_)
          · skip
            refine s_iload 1 rfl dX12_astray_122 ?_
            refine s_km1 dX12_astray_124 ?_
            refine s_ic_eq_P (tgt := 135) q7 dX12_astray_125 (by decide) ?_
            refine s_iload 0 rfl dX12_astray_135 ?_
            refine s_km1 dX12_astray_137 ?_
            refine s_ic_eq_N (tgt := 152) q15 dX12_astray_138 (by decide) ?_
            refine s_iload 3 rfl dX12_astray_141 ?_
            refine s_iload 0 rfl dX12_astray_143 ?_
            refine s_ic_ne (tgt := 152) dX12_astray_145 (by decide) (fun q16 => ?_) (fun q16 => ?_)
            · skip
              refine s_k0 dX12_astray_152 ?_
              refine s_istorew [(9, .inl 0), (8, .inl r6.1), (7, .inl r5.1), (6, .inl (h.1 73 0 (144 + v3).toNatClampNeg)), (5, .inl (h.1 63 0 v3.toNatClampNeg)), (4, .inl 0), (0, .inr (.inr (12, 0))), (1, .inl v1), (2, .inl v2), (3, .inl v3)] rfl rfl dX12_astray_153 ?_
              refine s_iload 5 rfl dX12_astray_155 ?_
              refine s_if_ne_P (tgt := 169) (by decide) dX12_astray_157 (by decide) ?_
              refine s_aload0 6 rfl dX12_astray_160 ?_
              refine s_gr (gR_RX12_23 0) dX12_astray_161 ?_
              refine s_iload3 9 rfl dX12_astray_164 ?_
              refine s_ial aT_49 q2 dX12_astray_165 ?_
              refine s_if_ne (tgt := 176) dX12_astray_166 (by decide) (fun q17 => ?_) (fun q17 => ?_)
              · skip
                refine s_iincw 1 (by decide) 9 [(3, .inl (v3 + 1)), (9, .inl 0), (8, .inl r6.1), (7, .inl r5.1), (6, .inl (h.1 73 0 (144 + v3).toNatClampNeg)), (5, .inl (h.1 63 0 v3.toNatClampNeg)), (4, .inl 0), (0, .inr (.inr (12, 0))), (1, .inl v1), (2, .inl v2)] rfl rfl rfl dX12_astray_176 ?_
                refine s_goto (tgt := 2) dX12_astray_179 (by decide) ?_
                exact s_loc [7, 8, 9, 0] rfl (ih v1 v2 (v3 + 1) r6.2)
              · skip
                refine s_iload 0 rfl dX12_astray_169 ?_
                refine s_if_ne_P (tgt := 176) (by decide) dX12_astray_171 (by decide) ?_
                refine s_iload3 9 rfl dX12_astray_174 ?_
                exact s_ireturn rfl rfl dX12_astray_175
            · skip
              refine s_k1 dX12_astray_148 ?_
              refine s_goto (tgt := 153) dX12_astray_149 (by decide) ?_
              refine s_istorew [(9, .inl 1), (8, .inl r6.1), (7, .inl r5.1), (6, .inl (h.1 73 0 (144 + v3).toNatClampNeg)), (5, .inl (h.1 63 0 v3.toNatClampNeg)), (4, .inl 0), (0, .inr (.inr (12, 0))), (1, .inl v1), (2, .inl v2), (3, .inl v3)] rfl rfl dX12_astray_153 ?_
              refine s_iload 5 rfl dX12_astray_155 ?_
              refine s_if_ne_P (tgt := 169) (by decide) dX12_astray_157 (by decide) ?_
              refine s_aload0 6 rfl dX12_astray_160 ?_
              refine s_gr (gR_RX12_23 0) dX12_astray_161 ?_
              refine s_iload3 9 rfl dX12_astray_164 ?_
              refine s_ial aT_49 q2 dX12_astray_165 ?_
              refine s_if_ne (tgt := 176) dX12_astray_166 (by decide) (fun q18 => ?_) (fun q18 => ?_)
              · skip
                refine s_iincw 1 (by decide) 9 [(3, .inl (v3 + 1)), (9, .inl 1), (8, .inl r6.1), (7, .inl r5.1), (6, .inl (h.1 73 0 (144 + v3).toNatClampNeg)), (5, .inl (h.1 63 0 v3.toNatClampNeg)), (4, .inl 0), (0, .inr (.inr (12, 0))), (1, .inl v1), (2, .inl v2)] rfl rfl rfl dX12_astray_176 ?_
                refine s_goto (tgt := 2) dX12_astray_179 (by decide) ?_
                exact s_loc [7, 8, 9, 0] rfl (ih v1 v2 (v3 + 1) r6.2)
              · skip
                refine s_iload 0 rfl dX12_astray_169 ?_
                refine s_if_ne_N (tgt := 176) (by decide) dX12_astray_171 (by decide) ?_
                refine s_iincw 1 (by decide) 9 [(3, .inl (v3 + 1)), (9, .inl 1), (8, .inl r6.1), (7, .inl r5.1), (6, .inl (h.1 73 0 (144 + v3).toNatClampNeg)), (5, .inl (h.1 63 0 v3.toNatClampNeg)), (4, .inl 0), (0, .inr (.inr (12, 0))), (1, .inl v1), (2, .inl v2)] rfl rfl rfl dX12_astray_176 ?_
                refine s_goto (tgt := 2) dX12_astray_179 (by decide) ?_
                exact s_loc [7, 8, 9, 0] rfl (ih v1 v2 (v3 + 1) r6.2)
          · skip
            refine s_iload 3 rfl dX12_astray_107 ?_
            refine s_iload 2 rfl dX12_astray_109 ?_
            refine s_ic_ne (tgt := 118) dX12_astray_111 (by decide) (fun q19 => ?_) (fun q19 => ?_)
            · skip
              refine s_k0 dX12_astray_118 ?_
              refine s_goto (tgt := 153) dX12_astray_119 (by decide) ?_
              refine s_istorew [(9, .inl 0), (8, .inl r6.1), (7, .inl r5.1), (6, .inl (h.1 73 0 (144 + v3).toNatClampNeg)), (5, .inl (h.1 63 0 v3.toNatClampNeg)), (4, .inl 0), (0, .inr (.inr (12, 0))), (1, .inl v1), (2, .inl v2), (3, .inl v3)] rfl rfl dX12_astray_153 ?_
              refine s_iload 5 rfl dX12_astray_155 ?_
              refine s_if_ne_P (tgt := 169) (by decide) dX12_astray_157 (by decide) ?_
              refine s_aload0 6 rfl dX12_astray_160 ?_
              refine s_gr (gR_RX12_23 0) dX12_astray_161 ?_
              refine s_iload3 9 rfl dX12_astray_164 ?_
              refine s_ial aT_49 q2 dX12_astray_165 ?_
              refine s_if_ne (tgt := 176) dX12_astray_166 (by decide) (fun q20 => ?_) (fun q20 => ?_)
              · skip
                refine s_iincw 1 (by decide) 9 [(3, .inl (v3 + 1)), (9, .inl 0), (8, .inl r6.1), (7, .inl r5.1), (6, .inl (h.1 73 0 (144 + v3).toNatClampNeg)), (5, .inl (h.1 63 0 v3.toNatClampNeg)), (4, .inl 0), (0, .inr (.inr (12, 0))), (1, .inl v1), (2, .inl v2)] rfl rfl rfl dX12_astray_176 ?_
                refine s_goto (tgt := 2) dX12_astray_179 (by decide) ?_
                exact s_loc [7, 8, 9, 0] rfl (ih v1 v2 (v3 + 1) r6.2)
              · skip
                refine s_iload 0 rfl dX12_astray_169 ?_
                refine s_if_ne_P (tgt := 176) (by decide) dX12_astray_171 (by decide) ?_
                refine s_iload3 9 rfl dX12_astray_174 ?_
                exact s_ireturn rfl rfl dX12_astray_175
            · skip
              refine s_k1 dX12_astray_114 ?_
              refine s_goto (tgt := 153) dX12_astray_115 (by decide) ?_
              refine s_istorew [(9, .inl 1), (8, .inl r6.1), (7, .inl r5.1), (6, .inl (h.1 73 0 (144 + v3).toNatClampNeg)), (5, .inl (h.1 63 0 v3.toNatClampNeg)), (4, .inl 0), (0, .inr (.inr (12, 0))), (1, .inl v1), (2, .inl v2), (3, .inl v3)] rfl rfl dX12_astray_153 ?_
              refine s_iload 5 rfl dX12_astray_155 ?_
              refine s_if_ne_P (tgt := 169) (by decide) dX12_astray_157 (by decide) ?_
              refine s_aload0 6 rfl dX12_astray_160 ?_
              refine s_gr (gR_RX12_23 0) dX12_astray_161 ?_
              refine s_iload3 9 rfl dX12_astray_164 ?_
              refine s_ial aT_49 q2 dX12_astray_165 ?_
              refine s_if_ne (tgt := 176) dX12_astray_166 (by decide) (fun q21 => ?_) (fun q21 => ?_)
              · skip
                refine s_iincw 1 (by decide) 9 [(3, .inl (v3 + 1)), (9, .inl 1), (8, .inl r6.1), (7, .inl r5.1), (6, .inl (h.1 73 0 (144 + v3).toNatClampNeg)), (5, .inl (h.1 63 0 v3.toNatClampNeg)), (4, .inl 0), (0, .inr (.inr (12, 0))), (1, .inl v1), (2, .inl v2)] rfl rfl rfl dX12_astray_176 ?_
                refine s_goto (tgt := 2) dX12_astray_179 (by decide) ?_
                exact s_loc [7, 8, 9, 0] rfl (ih v1 v2 (v3 + 1) r6.2)
              · skip
                refine s_iload 0 rfl dX12_astray_169 ?_
                refine s_if_ne_N (tgt := 176) (by decide) dX12_astray_171 (by decide) ?_
                refine s_iincw 1 (by decide) 9 [(3, .inl (v3 + 1)), (9, .inl 1), (8, .inl r6.1), (7, .inl r5.1), (6, .inl (h.1 73 0 (144 + v3).toNatClampNeg)), (5, .inl (h.1 63 0 v3.toNatClampNeg)), (4, .inl 0), (0, .inr (.inr (12, 0))), (1, .inl v1), (2, .inl v2)] rfl rfl rfl dX12_astray_176 ?_
                refine s_goto (tgt := 2) dX12_astray_179 (by decide) ?_
                exact s_loc [7, 8, 9, 0] rfl (ih v1 v2 (v3 + 1) r6.2)
      · skip
        refine s_k1 dX12_astray_20 ?_
        refine s_goto (tgt := 25) dX12_astray_21 (by decide) ?_
        refine s_istorew [(4, .inl 1), (0, .inr (.inr (12, 0))), (1, .inl v1), (2, .inl v2), (3, .inl v3)] rfl rfl dX12_astray_25 ?_
        refine s_iload 0 rfl dX12_astray_27 ?_
        refine s_if_eq_N (tgt := 41) (by decide) dX12_astray_29 (by decide) ?_
        refine s_aload0 1 rfl dX12_astray_32 ?_
        refine s_gr (gR_RX12_71 0) dX12_astray_33 ?_
        refine s_iload3 4 rfl dX12_astray_36 ?_
        refine s_ial aT_64 q2 dX12_astray_37 ?_
        refine s_goto (tgt := 47) dX12_astray_38 (by decide) ?_
        refine s_istorew [(5, .inl (h.1 64 0 v3.toNatClampNeg)), (4, .inl 1), (0, .inr (.inr (12, 0))), (1, .inl v1), (2, .inl v2), (3, .inl v3)] rfl rfl dX12_astray_47 ?_
        refine s_iload 1 rfl dX12_astray_49 ?_
        refine s_if_eq_N (tgt := 67) (by decide) dX12_astray_51 (by decide) ?_
        refine s_aload0 2 rfl dX12_astray_54 ?_
        refine s_gr (gR_RX12_101 0) dX12_astray_55 ?_
        refine s_sip 144 ks_144 dX12_astray_58 ?_
        refine s_iload3 5 rfl dX12_astray_61 ?_
        refine s_iadd dX12_astray_62 ?_
        refine s_chk (fun q22 => ?_)
        refine s_ial aT_74 q22 dX12_astray_63 ?_
        refine s_goto (tgt := 77) dX12_astray_64 (by decide) ?_
        refine s_istorew [(6, .inl (h.1 74 0 (144 + v3).toNatClampNeg)), (5, .inl (h.1 64 0 v3.toNatClampNeg)), (4, .inl 1), (0, .inr (.inr (12, 0))), (1, .inl v1), (2, .inl v2), (3, .inl v3)] rfl rfl dX12_astray_77 ?_
        refine s_aload0 3 rfl dX12_astray_79 ?_
        refine s_iload1 4 rfl dX12_astray_80 ?_
        refine s_iload3 6 rfl dX12_astray_81 ?_
        refine s_viI [.inl v1, .inl v3] (fun l b hb hl => cf_X12_setTo G l v1 v3 h b hb hl) me_X12_setTo vi_RX12_327 rfl rfl rfl rfl rfl dX12_astray_82 (fun r23 => ?_)
        refine s_istorew [(7, .inl r23.1), (6, .inl (h.1 74 0 (144 + v3).toNatClampNeg)), (5, .inl (h.1 64 0 v3.toNatClampNeg)), (4, .inl 1), (0, .inr (.inr (12, 0))), (1, .inl v1), (2, .inl v2), (3, .inl v3)] rfl rfl dX12_astray_85 ?_
        refine s_aload0 4 rfl dX12_astray_87 ?_
        refine s_iload2 6 rfl dX12_astray_88 ?_
        refine s_iload3 7 rfl dX12_astray_89 ?_
        refine s_viI [.inl v2, .inl v3] (fun l b hb hl => cf_X12_setTo G l v2 v3 r23.2 b hb hl) me_X12_setTo vi_RX12_327 rfl rfl rfl rfl rfl dX12_astray_90 (fun r24 => ?_)
        refine s_istorew [(8, .inl r24.1), (7, .inl r23.1), (6, .inl (h.1 74 0 (144 + v3).toNatClampNeg)), (5, .inl (h.1 64 0 v3.toNatClampNeg)), (4, .inl 1), (0, .inr (.inr (12, 0))), (1, .inl v1), (2, .inl v2), (3, .inl v3)] rfl rfl dX12_astray_93 ?_
        refine s_iload 1 rfl dX12_astray_95 ?_
        refine s_km1 dX12_astray_97 ?_
        refine s_ic_ne (tgt := 122) dX12_astray_98 (by decide) (fun q25 => ?_) (fun q25 => ?_)
        · skip
          refine s_iload 1 rfl dX12_astray_122 ?_
          refine s_km1 dX12_astray_124 ?_
          refine s_ic_eq_N (tgt := 135) q25 dX12_astray_125 (by decide) ?_
          refine s_iload 3 rfl dX12_astray_128 ?_
          refine s_iload 1 rfl dX12_astray_130 ?_
          refine s_ic_eq (tgt := 148) dX12_astray_132 (by decide) (fun q26 => ?_) (fun q26 => ?_)
          · skip
            refine s_k1 dX12_astray_148 ?_
            refine s_goto (tgt := 153) dX12_astray_149 (by decide) ?_
            refine s_istorew [(9, .inl 1), (8, .inl r24.1), (7, .inl r23.1), (6, .inl (h.1 74 0 (144 + v3).toNatClampNeg)), (5, .inl (h.1 64 0 v3.toNatClampNeg)), (4, .inl 1), (0, .inr (.inr (12, 0))), (1, .inl v1), (2, .inl v2), (3, .inl v3)] rfl rfl dX12_astray_153 ?_
            refine s_iload 5 rfl dX12_astray_155 ?_
            refine s_if_ne_N (tgt := 169) (by decide) dX12_astray_157 (by decide) ?_
            refine s_iload 0 rfl dX12_astray_169 ?_
            refine s_if_ne_N (tgt := 176) (by decide) dX12_astray_171 (by decide) ?_
            refine s_iincw 1 (by decide) 9 [(3, .inl (v3 + 1)), (9, .inl 1), (8, .inl r24.1), (7, .inl r23.1), (6, .inl (h.1 74 0 (144 + v3).toNatClampNeg)), (5, .inl (h.1 64 0 v3.toNatClampNeg)), (4, .inl 1), (0, .inr (.inr (12, 0))), (1, .inl v1), (2, .inl v2)] rfl rfl rfl dX12_astray_176 ?_
            refine s_goto (tgt := 2) dX12_astray_179 (by decide) ?_
            exact s_loc [7, 8, 9, 0] rfl (ih v1 v2 (v3 + 1) r24.2)
          · skip
            refine s_iload 0 rfl dX12_astray_135 ?_
            refine s_km1 dX12_astray_137 ?_
            refine s_ic_eq (tgt := 152) dX12_astray_138 (by decide) (fun q27 => ?_) (fun q27 => ?_)
            · skip
              refine s_k0 dX12_astray_152 ?_
              refine s_istorew [(9, .inl 0), (8, .inl r24.1), (7, .inl r23.1), (6, .inl (h.1 74 0 (144 + v3).toNatClampNeg)), (5, .inl (h.1 64 0 v3.toNatClampNeg)), (4, .inl 1), (0, .inr (.inr (12, 0))), (1, .inl v1), (2, .inl v2), (3, .inl v3)] rfl rfl dX12_astray_153 ?_
              refine s_iload 5 rfl dX12_astray_155 ?_
              refine s_if_ne_N (tgt := 169) (by decide) dX12_astray_157 (by decide) ?_
              refine s_iload 0 rfl dX12_astray_169 ?_
              refine s_if_ne_P (tgt := 176) (by decide) dX12_astray_171 (by decide) ?_
              refine s_iload3 9 rfl dX12_astray_174 ?_
              exact s_ireturn rfl rfl dX12_astray_175
            · skip
              refine s_iload 3 rfl dX12_astray_141 ?_
              refine s_iload 0 rfl dX12_astray_143 ?_
              refine s_ic_ne (tgt := 152) dX12_astray_145 (by decide) (fun q28 => ?_) (fun q28 => ?_)
              · skip
                refine s_k0 dX12_astray_152 ?_
                refine s_istorew [(9, .inl 0), (8, .inl r24.1), (7, .inl r23.1), (6, .inl (h.1 74 0 (144 + v3).toNatClampNeg)), (5, .inl (h.1 64 0 v3.toNatClampNeg)), (4, .inl 1), (0, .inr (.inr (12, 0))), (1, .inl v1), (2, .inl v2), (3, .inl v3)] rfl rfl dX12_astray_153 ?_
                refine s_iload 5 rfl dX12_astray_155 ?_
                refine s_if_ne_N (tgt := 169) (by decide) dX12_astray_157 (by decide) ?_
                refine s_iload 0 rfl dX12_astray_169 ?_
                refine s_if_ne_P (tgt := 176) (by decide) dX12_astray_171 (by decide) ?_
                refine s_iload3 9 rfl dX12_astray_174 ?_
                exact s_ireturn rfl rfl dX12_astray_175
              · skip
                refine s_k1 dX12_astray_148 ?_
                refine s_goto (tgt := 153) dX12_astray_149 (by decide) ?_
                refine s_istorew [(9, .inl 1), (8, .inl r24.1), (7, .inl r23.1), (6, .inl (h.1 74 0 (144 + v3).toNatClampNeg)), (5, .inl (h.1 64 0 v3.toNatClampNeg)), (4, .inl 1), (0, .inr (.inr (12, 0))), (1, .inl v1), (2, .inl v2), (3, .inl v3)] rfl rfl dX12_astray_153 ?_
                refine s_iload 5 rfl dX12_astray_155 ?_
                refine s_if_ne_N (tgt := 169) (by decide) dX12_astray_157 (by decide) ?_
                refine s_iload 0 rfl dX12_astray_169 ?_
                refine s_if_ne_N (tgt := 176) (by decide) dX12_astray_171 (by decide) ?_
                refine s_iincw 1 (by decide) 9 [(3, .inl (v3 + 1)), (9, .inl 1), (8, .inl r24.1), (7, .inl r23.1), (6, .inl (h.1 74 0 (144 + v3).toNatClampNeg)), (5, .inl (h.1 64 0 v3.toNatClampNeg)), (4, .inl 1), (0, .inr (.inr (12, 0))), (1, .inl v1), (2, .inl v2)] rfl rfl rfl dX12_astray_176 ?_
                refine s_goto (tgt := 2) dX12_astray_179 (by decide) ?_
                exact s_loc [7, 8, 9, 0] rfl (ih v1 v2 (v3 + 1) r24.2)
        · skip
          refine s_iload 0 rfl dX12_astray_101 ?_
          refine s_km1 dX12_astray_103 ?_
          refine s_ic_ne (tgt := 122) dX12_astray_104 (by decide) (fun q29 => ?_) (fun q29 => ?_)
          · skip
            refine s_iload 1 rfl dX12_astray_122 ?_
            refine s_km1 dX12_astray_124 ?_
            refine s_ic_eq_P (tgt := 135) q25 dX12_astray_125 (by decide) ?_
            refine s_iload 0 rfl dX12_astray_135 ?_
            refine s_km1 dX12_astray_137 ?_
            refine s_ic_eq_N (tgt := 152) q29 dX12_astray_138 (by decide) ?_
            refine s_iload 3 rfl dX12_astray_141 ?_
            refine s_iload 0 rfl dX12_astray_143 ?_
            refine s_ic_ne (tgt := 152) dX12_astray_145 (by decide) (fun q30 => ?_) (fun q30 => ?_)
            · skip
              refine s_k0 dX12_astray_152 ?_
              refine s_istorew [(9, .inl 0), (8, .inl r24.1), (7, .inl r23.1), (6, .inl (h.1 74 0 (144 + v3).toNatClampNeg)), (5, .inl (h.1 64 0 v3.toNatClampNeg)), (4, .inl 1), (0, .inr (.inr (12, 0))), (1, .inl v1), (2, .inl v2), (3, .inl v3)] rfl rfl dX12_astray_153 ?_
              refine s_iload 5 rfl dX12_astray_155 ?_
              refine s_if_ne_N (tgt := 169) (by decide) dX12_astray_157 (by decide) ?_
              refine s_iload 0 rfl dX12_astray_169 ?_
              refine s_if_ne_P (tgt := 176) (by decide) dX12_astray_171 (by decide) ?_
              refine s_iload3 9 rfl dX12_astray_174 ?_
              exact s_ireturn rfl rfl dX12_astray_175
            · skip
              refine s_k1 dX12_astray_148 ?_
              refine s_goto (tgt := 153) dX12_astray_149 (by decide) ?_
              refine s_istorew [(9, .inl 1), (8, .inl r24.1), (7, .inl r23.1), (6, .inl (h.1 74 0 (144 + v3).toNatClampNeg)), (5, .inl (h.1 64 0 v3.toNatClampNeg)), (4, .inl 1), (0, .inr (.inr (12, 0))), (1, .inl v1), (2, .inl v2), (3, .inl v3)] rfl rfl dX12_astray_153 ?_
              refine s_iload 5 rfl dX12_astray_155 ?_
              refine s_if_ne_N (tgt := 169) (by decide) dX12_astray_157 (by decide) ?_
              refine s_iload 0 rfl dX12_astray_169 ?_
              refine s_if_ne_N (tgt := 176) (by decide) dX12_astray_171 (by decide) ?_
              refine s_iincw 1 (by decide) 9 [(3, .inl (v3 + 1)), (9, .inl 1), (8, .inl r24.1), (7, .inl r23.1), (6, .inl (h.1 74 0 (144 + v3).toNatClampNeg)), (5, .inl (h.1 64 0 v3.toNatClampNeg)), (4, .inl 1), (0, .inr (.inr (12, 0))), (1, .inl v1), (2, .inl v2)] rfl rfl rfl dX12_astray_176 ?_
              refine s_goto (tgt := 2) dX12_astray_179 (by decide) ?_
              exact s_loc [7, 8, 9, 0] rfl (ih v1 v2 (v3 + 1) r24.2)
          · skip
            refine s_iload 3 rfl dX12_astray_107 ?_
            refine s_iload 2 rfl dX12_astray_109 ?_
            refine s_ic_ne (tgt := 118) dX12_astray_111 (by decide) (fun q31 => ?_) (fun q31 => ?_)
            · skip
              refine s_k0 dX12_astray_118 ?_
              refine s_goto (tgt := 153) dX12_astray_119 (by decide) ?_
              refine s_istorew [(9, .inl 0), (8, .inl r24.1), (7, .inl r23.1), (6, .inl (h.1 74 0 (144 + v3).toNatClampNeg)), (5, .inl (h.1 64 0 v3.toNatClampNeg)), (4, .inl 1), (0, .inr (.inr (12, 0))), (1, .inl v1), (2, .inl v2), (3, .inl v3)] rfl rfl dX12_astray_153 ?_
              refine s_iload 5 rfl dX12_astray_155 ?_
              refine s_if_ne_N (tgt := 169) (by decide) dX12_astray_157 (by decide) ?_
              refine s_iload 0 rfl dX12_astray_169 ?_
              refine s_if_ne_P (tgt := 176) (by decide) dX12_astray_171 (by decide) ?_
              refine s_iload3 9 rfl dX12_astray_174 ?_
              exact s_ireturn rfl rfl dX12_astray_175
            · skip
              refine s_k1 dX12_astray_114 ?_
              refine s_goto (tgt := 153) dX12_astray_115 (by decide) ?_
              refine s_istorew [(9, .inl 1), (8, .inl r24.1), (7, .inl r23.1), (6, .inl (h.1 74 0 (144 + v3).toNatClampNeg)), (5, .inl (h.1 64 0 v3.toNatClampNeg)), (4, .inl 1), (0, .inr (.inr (12, 0))), (1, .inl v1), (2, .inl v2), (3, .inl v3)] rfl rfl dX12_astray_153 ?_
              refine s_iload 5 rfl dX12_astray_155 ?_
              refine s_if_ne_N (tgt := 169) (by decide) dX12_astray_157 (by decide) ?_
              refine s_iload 0 rfl dX12_astray_169 ?_
              refine s_if_ne_N (tgt := 176) (by decide) dX12_astray_171 (by decide) ?_
              refine s_iincw 1 (by decide) 9 [(3, .inl (v3 + 1)), (9, .inl 1), (8, .inl r24.1), (7, .inl r23.1), (6, .inl (h.1 74 0 (144 + v3).toNatClampNeg)), (5, .inl (h.1 64 0 v3.toNatClampNeg)), (4, .inl 1), (0, .inr (.inr (12, 0))), (1, .inl v1), (2, .inl v2)] rfl rfl rfl dX12_astray_176 ?_
              refine s_goto (tgt := 2) dX12_astray_179 (by decide) ?_
              exact s_loc [7, 8, 9, 0] rfl (ih v1 v2 (v3 + 1) r24.2)
set_option maxRecDepth 20000 in
theorem sf_X12_astray (G : mG) (X : mX) (x1 : Int32) (x2 : Int32)  (h : mH) : Sim G X cX12_astray 10 RX12 (some .int) (mRoom 1 24) eI (f_X12_astray x1 x2 h) 0 [(0, .inr (.inr (12, 0))), (1, .inl x1), (2, .inl x2)] [] h := by
  unfold f_X12_astray
  refine s_k0 dX12_astray_0 ?_
  refine s_istore3 [(3, .inl 0), (0, .inr (.inr (12, 0))), (1, .inl x1), (2, .inl x2)] rfl rfl dX12_astray_1 ?_
  refine s_loc [1, 2, 3, 0] rfl ?_
  refine sf_X12_astray_2 G X  _ (fun u32 u33 u34 h35 => ?_) mFu x1 x2 0 h
  · skip
    refine s_km1 dX12_astray_182 ?_
    exact s_ireturn rfl rfl dX12_astray_183
set_option maxRecDepth 20000 in
theorem cf_X12_astray (G : mG) (l : Launch) (x1 : Int32) (x2 : Int32)  (h : mH) (b : Int32 × mH) (hb : f_X12_astray x1 x2 h = some b) (hl : ∀ v ∈ ([.inr (.inr (12, 0)), .inl x1, .inl x2] : List mV), mLi v) : mMet G l yX12_astray cX12_astray 10 (some .int) (mRoom 1 24) [.inr (.inr (12, 0)), .inl x1, .inl x2] h (eI b) :=
  mMet.of (y := yX12_astray) (as := [.inr (.inr (12, 0)), .inl x1, .inl x2]) (by decide +kernel) (Nat.le_of_ble_eq_true rfl) (fun X => sf_X12_astray G X x1 x2  h) hl b hb
-- DriverBookModel.fails(IIZI)I
def f_X12_fails (x1 : Int32) (x2 : Int32) (x3 : Int32) (x4 : Int32) (h : mH) : Option (Int32 × mH) :=
  if x3 = 0 then
    if (h.1 12 0 34) ≤ (h.1 83 0 (6 : Int32).toNatClampNeg) then
      if mIn x2 24 = true then
      (f_X12_astray x1 (h.1 53 0 x2.toNatClampNeg) h).bind fun r4 =>
      if r4.1 = (-1) then
        if (r4.2.1 12 0 37) = x4 then
          some (0, r4.2)
        else
          some (4, r4.2)
      else
        some (3, r4.2)
      else none
    else
      some (2, h)
  else
    some (1, h)
set_option maxRecDepth 20000 in
theorem sf_X12_fails (G : mG) (X : mX) (x1 : Int32) (x2 : Int32) (x3 : Int32) (x4 : Int32)  (h : mH) : Sim G X cX12_fails 5 RX12 (some .int) (mRoom 2 53) eI (f_X12_fails x1 x2 x3 x4 h) 0 [(0, .inr (.inr (12, 0))), (1, .inl x1), (2, .inl x2), (3, .inl x3), (4, .inl x4)] [] h := by
  unfold f_X12_fails
  refine s_iload3 3 rfl dX12_fails_0 ?_
  refine s_if_eq (tgt := 6) dX12_fails_1 (by decide) (fun q1 => ?_) (fun q1 => ?_)
  · skip
    refine s_aload0 0 rfl dX12_fails_6 ?_
    refine s_gi gI_RX12_204 dX12_fails_7 ?_
    refine s_aload0 0 rfl dX12_fails_10 ?_
    refine s_gr (gR_RX12_128 0) dX12_fails_11 ?_
    refine s_bip 6 kb_6 dX12_fails_14 ?_
    refine s_ial aT_83 (by decide) dX12_fails_16 ?_
    refine s_ic_le (tgt := 22) dX12_fails_17 (by decide) (fun q2 => ?_) (fun q2 => ?_)
    · skip
      refine s_aload0 0 rfl dX12_fails_22 ?_
      refine s_iload1 1 rfl dX12_fails_23 ?_
      refine s_aload0 0 rfl dX12_fails_24 ?_
      refine s_gr (gR_RX12_35 0) dX12_fails_25 ?_
      refine s_iload2 2 rfl dX12_fails_28 ?_
      refine s_chk (fun q3 => ?_)
      refine s_ial aT_53 q3 dX12_fails_29 ?_
      refine s_viI [.inl x1, .inl (h.1 53 0 x2.toNatClampNeg)] (fun l b hb hl => cf_X12_astray G l x1 (h.1 53 0 x2.toNatClampNeg) h b hb hl) me_X12_astray vi_RX12_330 rfl rfl rfl rfl rfl dX12_fails_30 (fun r4 => ?_)
      refine s_km1 dX12_fails_33 ?_
      refine s_ic_eq (tgt := 39) dX12_fails_34 (by decide) (fun q5 => ?_) (fun q5 => ?_)
      · skip
        refine s_aload0 0 rfl dX12_fails_39 ?_
        refine s_gi gI_RX12_213 dX12_fails_40 ?_
        refine s_iload 4 rfl dX12_fails_43 ?_
        refine s_ic_eq (tgt := 52) dX12_fails_45 (by decide) (fun q6 => ?_) (fun q6 => ?_)
        · skip
          refine s_k0 dX12_fails_52 ?_
          exact s_ireturn rfl rfl dX12_fails_53
        · skip
          refine s_k4 dX12_fails_48 ?_
          refine s_goto (tgt := 53) dX12_fails_49 (by decide) ?_
          exact s_ireturn rfl rfl dX12_fails_53
      · skip
        refine s_k3 dX12_fails_37 ?_
        exact s_ireturn rfl rfl dX12_fails_38
    · skip
      refine s_k2 dX12_fails_20 ?_
      exact s_ireturn rfl rfl dX12_fails_21
  · skip
    refine s_k1 dX12_fails_4 ?_
    exact s_ireturn rfl rfl dX12_fails_5
set_option maxRecDepth 20000 in
theorem cf_X12_fails (G : mG) (l : Launch) (x1 : Int32) (x2 : Int32) (x3 : Int32) (x4 : Int32)  (h : mH) (b : Int32 × mH) (hb : f_X12_fails x1 x2 x3 x4 h = some b) (hl : ∀ v ∈ ([.inr (.inr (12, 0)), .inl x1, .inl x2, .inl x3, .inl x4] : List mV), mLi v) : mMet G l yX12_fails cX12_fails 5 (some .int) (mRoom 2 53) [.inr (.inr (12, 0)), .inl x1, .inl x2, .inl x3, .inl x4] h (eI b) :=
  mMet.of (y := yX12_fails) (as := [.inr (.inr (12, 0)), .inl x1, .inl x2, .inl x3, .inl x4]) (by decide +kernel) (Nat.le_of_ble_eq_true rfl) (fun X => sf_X12_fails G X x1 x2 x3 x4  h) hl b hb
-- DriverBookModel.walk(II)I
def f_X12_walk_107 (k : Int32 → Int32 → Int32 → Int32 → Int32 → Int32 → mH → Option (Int32 × mH))  : Nat → Int32 → Int32 → Int32 → Int32 → Int32 → Int32 → mH → Option (Int32 × mH)
  | 0, _, _, _, _, _, _, _ => none
  | n + 1, v1, v2, v4, v5, v6, v7, h =>
    if v7 ≤ v4 then
      if v6 = 0 then
        (f_X12_comes v2 1 ((h.1 12 0 23) + v7) h).bind fun r15 =>
        (f_X12_runs_2 0 v1 r15).bind fun r16 =>
        (f_X12_fails v1 v2 r16.1 v5 r16.2).bind fun r17 =>
        if r17.1 = 0 then
          (f_X12_brings 6 r17.2).bind fun r19 =>
          f_X12_walk_107 k  n v1 v2 v4 v5 v6 (v7 + 1) r19
        else
          if r17.1 = 3 then
            mLet (uI r17.2 12 0 57 r17.1) fun h23 =>
            if mIn v2 24 = true then
            (f_X12_astray v1 (h23.1 53 0 v2.toNatClampNeg) h23).bind fun r25 =>
            (f_X12_brings 6 (uI r25.2 12 0 58 r25.1)).bind fun r26 =>
            f_X12_walk_107 k  n v1 v2 v4 v5 v7 (v7 + 1) r26
            else none
          else
            mLet (uI r17.2 12 0 57 r17.1) fun h21 =>
            (f_X12_brings 6 (uI h21 12 0 58 (-2))).bind fun r22 =>
            f_X12_walk_107 k  n v1 v2 v4 v5 v7 (v7 + 1) r22
      else
        k v1 v2 v4 v5 v6 v7 h
    else
      k v1 v2 v4 v5 v6 v7 h
def f_X12_walk (x1 : Int32) (x2 : Int32) (h : mH) : Option (Int32 × mH) :=
  (f_X12_isAct x1 h).bind fun r1 =>
  if r1.1 = 0 then
    some ((-1), r1.2)
  else
    (f_X12_isField x2 r1.2).bind fun r3 =>
    if r3.1 = 0 then
      some ((-1), r3.2)
    else
      if mIn x2 24 = true then
      if (r3.2.1 49 0 x2.toNatClampNeg) = 2 then
        if (r3.2.1 53 0 x2.toNatClampNeg) = (-1) then
          some ((-4), r3.2)
        else
          (f_X12_stores 6 r3.2).bind fun r8 =>
          (f_X12_runs_2 0 x1 r8).bind fun r9 =>
          (f_X12_brings 6 r9.2).bind fun r10 =>
          if r9.1 = 0 then
            if (r10.1 12 0 30) = 16 then
              some ((-3), r10)
            else
              f_X12_walk_107 (fun u27 u28 u29 u30 u31 u32 h33 =>
                some (u31, h33))  mFu x1 x2 ((r9.2.1 12 0 23) - (r9.2.1 72 0 (6 : Int32).toNatClampNeg)) ((r9.2.1 12 0 37) + 1) 0 1 r10
          else
            some ((-5), r10)
      else
        some ((-4), r3.2)
      else none
set_option maxRecDepth 20000 in
theorem sf_X12_walk_107 (G : mG) (X : mX)   (k : Int32 → Int32 → Int32 → Int32 → Int32 → Int32 → mH → Option (Int32 × mH)) (hk : ∀ (v1 : Int32) (v2 : Int32) (v4 : Int32) (v5 : Int32) (v6 : Int32) (v7 : Int32) (h : mH), Sim G X cX12_walk 10 RX12 (some .int) (mRoom 10 238) eI (k v1 v2 v4 v5 v6 v7 h) 205 [(0, .inr (.inr (12, 0))), (1, .inl v1), (2, .inl v2), (4, .inl v4), (5, .inl v5), (6, .inl v6), (7, .inl v7)] [] h) (n : Nat) : ∀ (v1 : Int32) (v2 : Int32) (v4 : Int32) (v5 : Int32) (v6 : Int32) (v7 : Int32) (h : mH), Sim G X cX12_walk 10 RX12 (some .int) (mRoom 10 238) eI (f_X12_walk_107 k  n v1 v2 v4 v5 v6 v7 h) 107 [(0, .inr (.inr (12, 0))), (1, .inl v1), (2, .inl v2), (4, .inl v4), (5, .inl v5), (6, .inl v6), (7, .inl v7)] [] h := by
  induction n with
  | zero =>
    intro v1 v2 v4 v5 v6 v7 h
    exact s_none
  | succ n ih =>
    intro v1 v2 v4 v5 v6 v7 h
    unfold f_X12_walk_107
    refine s_iload 6 rfl dX12_walk_107 ?_
    refine s_iload 3 rfl dX12_walk_109 ?_
    refine s_ic_gt (tgt := 205) dX12_walk_111 (by decide) (fun q13 => ?_) (fun q13 => ?_)
    · skip
      exact s_loc [0, 1, 2, 3, 4, 5, 6] rfl (hk v1 v2 v4 v5 v6 v7 h)
    · skip
      refine s_iload 5 rfl dX12_walk_114 ?_
      refine s_if_ne (tgt := 205) dX12_walk_116 (by decide) (fun q14 => ?_) (fun q14 => ?_)
      · skip
        exact s_loc [0, 1, 2, 3, 4, 5, 6] rfl (hk v1 v2 v4 v5 v6 v7 h)
      · skip
        refine s_aload0 0 rfl dX12_walk_119 ?_
        refine s_iload2 2 rfl dX12_walk_120 ?_
        refine s_k1 dX12_walk_121 ?_
        refine s_aload0 0 rfl dX12_walk_122 ?_
        refine s_gi gI_RX12_198 dX12_walk_123 ?_
        refine s_iload 6 rfl dX12_walk_126 ?_
        refine s_iadd dX12_walk_128 ?_
        refine s_viV [.inl v2, .inl 1, .inl ((h.1 12 0 23) + v7)] (fun l b hb hl => cf_X12_comes G l v2 1 ((h.1 12 0 23) + v7) h b hb hl) me_X12_comes vi_RX12_289 rfl rfl rfl rfl rfl dX12_walk_129 (fun r15 => ?_)
        refine s_aload0 0 rfl dX12_walk_132 ?_
        refine s_k0 dX12_walk_133 ?_
        refine s_iload1 1 rfl dX12_walk_134 ?_
        refine s_viI [.inl 0, .inl v1] (fun l b hb hl => cf_X12_runs_2 G l 0 v1 r15 b hb hl) me_X12_runs vi_RX12_300 rfl rfl rfl rfl rfl dX12_walk_135 (fun r16 => ?_)
        refine s_istorew [(8, .inl r16.1), (0, .inr (.inr (12, 0))), (1, .inl v1), (2, .inl v2), (4, .inl v4), (5, .inl v5), (6, .inl v6), (7, .inl v7)] rfl rfl dX12_walk_138 ?_
        refine s_aload0 1 rfl dX12_walk_140 ?_
        refine s_iload1 2 rfl dX12_walk_141 ?_
        refine s_iload2 3 rfl dX12_walk_142 ?_
        refine s_iload 0 rfl dX12_walk_143 ?_
        refine s_iload 5 rfl dX12_walk_145 ?_
        refine s_viI [.inl v1, .inl v2, .inl r16.1, .inl v5] (fun l b hb hl => cf_X12_fails G l v1 v2 r16.1 v5 r16.2 b hb hl) me_X12_fails vi_RX12_339 rfl rfl rfl rfl rfl dX12_walk_147 (fun r17 => ?_)
        refine s_istorew [(9, .inl r17.1), (8, .inl r16.1), (0, .inr (.inr (12, 0))), (1, .inl v1), (2, .inl v2), (4, .inl v4), (5, .inl v5), (6, .inl v6), (7, .inl v7)] rfl rfl dX12_walk_150 ?_
        refine s_iload 0 rfl dX12_walk_152 ?_
        refine s_if_eq (tgt := 193) dX12_walk_154 (by decide) (fun q18 => ?_) (fun q18 => ?_)
        · skip
          refine s_aload0 2 rfl dX12_walk_193 ?_
          refine s_bip 6 kb_6 dX12_walk_194 ?_
          refine s_viV [.inl 6] (fun l b hb hl => cf_X12_brings G l 6 r17.2 b hb hl) me_X12_brings vi_RX12_336 rfl rfl rfl rfl rfl dX12_walk_196 (fun r19 => ?_)
          refine s_iincw 1 (by decide) 8 [(7, .inl (v7 + 1)), (9, .inl r17.1), (8, .inl r16.1), (0, .inr (.inr (12, 0))), (1, .inl v1), (2, .inl v2), (4, .inl v4), (5, .inl v5), (6, .inl v6)] rfl rfl rfl dX12_walk_199 ?_
          refine s_goto (tgt := 107) dX12_walk_202 (by decide) ?_
          exact s_loc [3, 4, 5, 6, 7, 8, 0] rfl (ih v1 v2 v4 v5 v6 (v7 + 1) r19)
        · skip
          refine s_iload 8 rfl dX12_walk_157 ?_
          refine s_istorew [(6, .inl v7), (9, .inl r17.1), (8, .inl r16.1), (0, .inr (.inr (12, 0))), (1, .inl v1), (2, .inl v2), (4, .inl v4), (5, .inl v5), (7, .inl v7)] rfl rfl dX12_walk_159 ?_
          refine s_aload0 3 rfl dX12_walk_161 ?_
          refine s_iload 1 rfl dX12_walk_162 ?_
          refine s_pi pI_RX12_146 dX12_walk_164 ?_
          refine s_aload0 3 rfl dX12_walk_167 ?_
          refine s_iload 1 rfl dX12_walk_168 ?_
          refine s_k3 dX12_walk_170 ?_
          refine s_ic_ne (tgt := 188) dX12_walk_171 (by decide) (fun q20 => ?_) (fun q20 => ?_)
          · skip
            refine s_bip (-2) kb_m2 dX12_walk_188 ?_
            refine s_let (fun h21 => ?_)
            refine s_pi pI_RX12_149 dX12_walk_190 ?_
            refine s_aload0 3 rfl dX12_walk_193 ?_
            refine s_bip 6 kb_6 dX12_walk_194 ?_
            refine s_viV [.inl 6] (fun l b hb hl => cf_X12_brings G l 6 (uI h21 12 0 58 (-2)) b hb hl) me_X12_brings vi_RX12_336 rfl rfl rfl rfl rfl dX12_walk_196 (fun r22 => ?_)
            refine s_iincw 1 (by decide) 8 [(7, .inl (v7 + 1)), (6, .inl v7), (9, .inl r17.1), (8, .inl r16.1), (0, .inr (.inr (12, 0))), (1, .inl v1), (2, .inl v2), (4, .inl v4), (5, .inl v5)] rfl rfl rfl dX12_walk_199 ?_
            refine s_goto (tgt := 107) dX12_walk_202 (by decide) ?_
            exact s_loc [4, 5, 6, 7, 8, 1, 0] rfl (ih v1 v2 v4 v5 v7 (v7 + 1) r22)
          · skip
            refine s_aload0 3 rfl dX12_walk_174 ?_
            refine s_iload1 4 rfl dX12_walk_175 ?_
            refine s_aload0 3 rfl dX12_walk_176 ?_
            refine s_gr (gR_RX12_35 0) dX12_walk_177 ?_
            refine s_iload2 5 rfl dX12_walk_180 ?_
            refine s_let (fun h23 => ?_)
            refine s_chk (fun q24 => ?_)
            refine s_ial aT_53 q24 dX12_walk_181 ?_
            refine s_viI [.inl v1, .inl (h23.1 53 0 v2.toNatClampNeg)] (fun l b hb hl => cf_X12_astray G l v1 (h23.1 53 0 v2.toNatClampNeg) h23 b hb hl) me_X12_astray vi_RX12_330 rfl rfl rfl rfl rfl dX12_walk_182 (fun r25 => ?_)
            refine s_goto (tgt := 190) dX12_walk_185 (by decide) ?_
            refine s_pi pI_RX12_149 dX12_walk_190 ?_
            refine s_aload0 3 rfl dX12_walk_193 ?_
            refine s_bip 6 kb_6 dX12_walk_194 ?_
            refine s_viV [.inl 6] (fun l b hb hl => cf_X12_brings G l 6 (uI r25.2 12 0 58 r25.1) b hb hl) me_X12_brings vi_RX12_336 rfl rfl rfl rfl rfl dX12_walk_196 (fun r26 => ?_)
            refine s_iincw 1 (by decide) 8 [(7, .inl (v7 + 1)), (6, .inl v7), (9, .inl r17.1), (8, .inl r16.1), (0, .inr (.inr (12, 0))), (1, .inl v1), (2, .inl v2), (4, .inl v4), (5, .inl v5)] rfl rfl rfl dX12_walk_199 ?_
            refine s_goto (tgt := 107) dX12_walk_202 (by decide) ?_
            exact s_loc [4, 5, 6, 7, 8, 1, 0] rfl (ih v1 v2 v4 v5 v7 (v7 + 1) r26)
set_option maxRecDepth 20000 in
theorem sf_X12_walk (G : mG) (X : mX) (x1 : Int32) (x2 : Int32)  (h : mH) : Sim G X cX12_walk 10 RX12 (some .int) (mRoom 10 238) eI (f_X12_walk x1 x2 h) 0 [(0, .inr (.inr (12, 0))), (1, .inl x1), (2, .inl x2)] [] h := by
  unfold f_X12_walk
  refine s_aload0 0 rfl dX12_walk_0 ?_
  refine s_iload1 1 rfl dX12_walk_1 ?_
  refine s_viI [.inl x1] (fun l b hb hl => cf_X12_isAct G l x1 h b hb hl) me_X12_isAct vi_RX12_241 rfl rfl rfl rfl rfl dX12_walk_2 (fun r1 => ?_)
  refine s_if_eq (tgt := 16) dX12_walk_5 (by decide) (fun q2 => ?_) (fun q2 => ?_)
  · skip
    refine s_km1 dX12_walk_16 ?_
    exact s_ireturn rfl rfl dX12_walk_17
  · skip
    refine s_aload0 0 rfl dX12_walk_8 ?_
    refine s_iload2 2 rfl dX12_walk_9 ?_
    refine s_viI [.inl x2] (fun l b hb hl => cf_X12_isField G l x2 r1.2 b hb hl) me_X12_isField vi_RX12_238 rfl rfl rfl rfl rfl dX12_walk_10 (fun r3 => ?_)
    refine s_if_ne (tgt := 18) dX12_walk_13 (by decide) (fun q4 => ?_) (fun q4 => ?_)
    · skip
      refine s_aload0 0 rfl dX12_walk_18 ?_
      refine s_gr (gR_RX12_23 0) dX12_walk_19 ?_
      refine s_iload2 2 rfl dX12_walk_22 ?_
      refine s_chk (fun q5 => ?_)
      refine s_ial aT_49 q5 dX12_walk_23 ?_
      refine s_k2 dX12_walk_24 ?_
      refine s_ic_ne (tgt := 38) dX12_walk_25 (by decide) (fun q6 => ?_) (fun q6 => ?_)
      · skip
        refine s_bip (-4) kb_m4 dX12_walk_38 ?_
        exact s_ireturn rfl rfl dX12_walk_40
      · skip
        refine s_aload0 0 rfl dX12_walk_28 ?_
        refine s_gr (gR_RX12_35 0) dX12_walk_29 ?_
        refine s_iload2 2 rfl dX12_walk_32 ?_
        refine s_ial aT_53 q5 dX12_walk_33 ?_
        refine s_km1 dX12_walk_34 ?_
        refine s_ic_ne (tgt := 41) dX12_walk_35 (by decide) (fun q7 => ?_) (fun q7 => ?_)
        · skip
          refine s_aload0 0 rfl dX12_walk_41 ?_
          refine s_bip 6 kb_6 dX12_walk_42 ?_
          refine s_viV [.inl 6] (fun l b hb hl => cf_X12_stores G l 6 r3.2 b hb hl) me_X12_stores vi_RX12_333 rfl rfl rfl rfl rfl dX12_walk_44 (fun r8 => ?_)
          refine s_aload0 0 rfl dX12_walk_47 ?_
          refine s_k0 dX12_walk_48 ?_
          refine s_iload1 1 rfl dX12_walk_49 ?_
          refine s_viI [.inl 0, .inl x1] (fun l b hb hl => cf_X12_runs_2 G l 0 x1 r8 b hb hl) me_X12_runs vi_RX12_300 rfl rfl rfl rfl rfl dX12_walk_50 (fun r9 => ?_)
          refine s_istore3 [(3, .inl r9.1), (0, .inr (.inr (12, 0))), (1, .inl x1), (2, .inl x2)] rfl rfl dX12_walk_53 ?_
          refine s_aload0 1 rfl dX12_walk_54 ?_
          refine s_gi gI_RX12_198 dX12_walk_55 ?_
          refine s_aload0 1 rfl dX12_walk_58 ?_
          refine s_gr (gR_RX12_95 0) dX12_walk_59 ?_
          refine s_bip 6 kb_6 dX12_walk_62 ?_
          refine s_ial aT_72 (by decide) dX12_walk_64 ?_
          refine s_isub dX12_walk_65 ?_
          refine s_istorew [(4, .inl ((r9.2.1 12 0 23) - (r9.2.1 72 0 (6 : Int32).toNatClampNeg))), (3, .inl r9.1), (0, .inr (.inr (12, 0))), (1, .inl x1), (2, .inl x2)] rfl rfl dX12_walk_66 ?_
          refine s_aload0 2 rfl dX12_walk_68 ?_
          refine s_gi gI_RX12_213 dX12_walk_69 ?_
          refine s_k1 dX12_walk_72 ?_
          refine s_iadd dX12_walk_73 ?_
          refine s_istorew [(5, .inl ((r9.2.1 12 0 37) + 1)), (4, .inl ((r9.2.1 12 0 23) - (r9.2.1 72 0 (6 : Int32).toNatClampNeg))), (3, .inl r9.1), (0, .inr (.inr (12, 0))), (1, .inl x1), (2, .inl x2)] rfl rfl dX12_walk_74 ?_
          refine s_aload0 3 rfl dX12_walk_76 ?_
          refine s_bip 6 kb_6 dX12_walk_77 ?_
          refine s_viV [.inl 6] (fun l b hb hl => cf_X12_brings G l 6 r9.2 b hb hl) me_X12_brings vi_RX12_336 rfl rfl rfl rfl rfl dX12_walk_79 (fun r10 => ?_)
          refine s_iload3 2 rfl dX12_walk_82 ?_
          refine s_if_eq (tgt := 89) dX12_walk_83 (by decide) (fun q11 => ?_) (fun q11 => ?_)
          · skip
            refine s_aload0 3 rfl dX12_walk_89 ?_
            refine s_gi gI_RX12_201 dX12_walk_90 ?_
            refine s_bip 16 kb_16 dX12_walk_93 ?_
            refine s_ic_ne (tgt := 101) dX12_walk_95 (by decide) (fun q12 => ?_) (fun q12 => ?_)
            · skip
              refine s_k0 dX12_walk_101 ?_
              refine s_istorew [(6, .inl 0), (5, .inl ((r9.2.1 12 0 37) + 1)), (4, .inl ((r9.2.1 12 0 23) - (r9.2.1 72 0 (6 : Int32).toNatClampNeg))), (3, .inl r9.1), (0, .inr (.inr (12, 0))), (1, .inl x1), (2, .inl x2)] rfl rfl dX12_walk_102 ?_
              refine s_k1 dX12_walk_104 ?_
              refine s_istorew [(7, .inl 1), (6, .inl 0), (5, .inl ((r9.2.1 12 0 37) + 1)), (4, .inl ((r9.2.1 12 0 23) - (r9.2.1 72 0 (6 : Int32).toNatClampNeg))), (3, .inl r9.1), (0, .inr (.inr (12, 0))), (1, .inl x1), (2, .inl x2)] rfl rfl dX12_walk_105 ?_
              refine s_loc [5, 6, 7, 3, 2, 1, 0] rfl ?_
              refine sf_X12_walk_107 G X  _ (fun u27 u28 u29 u30 u31 u32 h33 => ?_) mFu x1 x2 ((r9.2.1 12 0 23) - (r9.2.1 72 0 (6 : Int32).toNatClampNeg)) ((r9.2.1 12 0 37) + 1) 0 1 r10
              · skip
                refine s_iload 5 rfl dX12_walk_205 ?_
                exact s_ireturn rfl rfl dX12_walk_207
            · skip
              refine s_bip (-3) kb_m3 dX12_walk_98 ?_
              exact s_ireturn rfl rfl dX12_walk_100
          · skip
            refine s_bip (-5) kb_m5 dX12_walk_86 ?_
            exact s_ireturn rfl rfl dX12_walk_88
        · skip
          refine s_bip (-4) kb_m4 dX12_walk_38 ?_
          exact s_ireturn rfl rfl dX12_walk_40
    · skip
      refine s_km1 dX12_walk_16 ?_
      exact s_ireturn rfl rfl dX12_walk_17
set_option maxRecDepth 20000 in
theorem cf_X12_walk (G : mG) (l : Launch) (x1 : Int32) (x2 : Int32)  (h : mH) (b : Int32 × mH) (hb : f_X12_walk x1 x2 h = some b) (hl : ∀ v ∈ ([.inr (.inr (12, 0)), .inl x1, .inl x2] : List mV), mLi v) : mMet G l yX12_walk cX12_walk 10 (some .int) (mRoom 10 238) [.inr (.inr (12, 0)), .inl x1, .inl x2] h (eI b) :=
  mMet.of (y := yX12_walk) (as := [.inr (.inr (12, 0)), .inl x1, .inl x2]) (by decide +kernel) (Nat.le_of_ble_eq_true rfl) (fun X => sf_X12_walk G X x1 x2  h) hl b hb
