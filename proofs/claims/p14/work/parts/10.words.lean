/-! ===== the tables' words that are used, and what is fixed of fields, arrays and methods ===== -/
theorem tm1 {w : Cond} (h : w ∈ tables_1_1) (hg : goodWord w = true) : w ∈ mTb := List.mem_filter.mpr ⟨List.mem_append_right _ (List.mem_append_left _ h), hg⟩
theorem tm2 {w : Cond} (h : w ∈ tables_1_2) (hg : goodWord w = true) : w ∈ mTb := List.mem_filter.mpr ⟨List.mem_append_right _ (List.mem_append_right _ (List.mem_append_left _ h)), hg⟩
theorem tm3 {w : Cond} (h : w ∈ tables_1_3) (hg : goodWord w = true) : w ∈ mTb := List.mem_filter.mpr ⟨List.mem_append_right _ (List.mem_append_right _ (List.mem_append_right _ (List.mem_append_left _ h))), hg⟩
theorem tm4 {w : Cond} (h : w ∈ tables_1_4) (hg : goodWord w = true) : w ∈ mTb := List.mem_filter.mpr ⟨List.mem_append_right _ (List.mem_append_right _ (List.mem_append_right _ (List.mem_append_right _ (List.mem_append_left _ h)))), hg⟩
theorem tm5 {w : Cond} (h : w ∈ tables_1_5) (hg : goodWord w = true) : w ∈ mTb := List.mem_filter.mpr ⟨List.mem_append_right _ (List.mem_append_right _ (List.mem_append_right _ (List.mem_append_right _ (List.mem_append_right _ (List.mem_append_left _ h))))), hg⟩
theorem tm6 {w : Cond} (h : w ∈ tables_1_6) (hg : goodWord w = true) : w ∈ mTb := List.mem_filter.mpr ⟨List.mem_append_right _ (List.mem_append_right _ (List.mem_append_right _ (List.mem_append_right _ (List.mem_append_right _ (List.mem_append_right _ (List.mem_append_left _ h)))))), hg⟩
theorem tm7 {w : Cond} (h : w ∈ tables_1_7) (hg : goodWord w = true) : w ∈ mTb := List.mem_filter.mpr ⟨List.mem_append_right _ (List.mem_append_right _ (List.mem_append_right _ (List.mem_append_right _ (List.mem_append_right _ (List.mem_append_right _ (List.mem_append_right _ (h))))))), hg⟩
theorem tmp_ {i : Nat} {w : Cond} (h : (k2_sels lw_privs)[i]? = some w) (hg : goodWord w = true := by decide +kernel) : w ∈ mTb := List.mem_filter.mpr ⟨List.mem_append_left _ (List.mem_of_getElem? h), hg⟩
theorem inw_0 : ∀ w ∈ u_ws RX0 TX0 6, w ∈ lw_tbl := by decide +kernel
theorem gdw_0 : (u_ws RX0 TX0 6).all goodWord = true := by decide +kernel
theorem cls_0 : mCls 0 RX0 TX0 := ⟨rfl, fun w hw => List.mem_filter.mpr ⟨inw_0 w hw, List.all_eq_true.mp gdw_0 w hw⟩, nmX0, tyX0_ok⟩
theorem inw_1 : ∀ w ∈ u_ws RX1 TX1 10, w ∈ lw_tbl := by decide +kernel
theorem gdw_1 : (u_ws RX1 TX1 10).all goodWord = true := by decide +kernel
theorem cls_1 : mCls 1 RX1 TX1 := ⟨rfl, fun w hw => List.mem_filter.mpr ⟨inw_1 w hw, List.all_eq_true.mp gdw_1 w hw⟩, nmX1, tyX1_ok⟩
theorem inw_2 : ∀ w ∈ u_ws RX2 TX2 7, w ∈ lw_tbl := by decide +kernel
theorem gdw_2 : (u_ws RX2 TX2 7).all goodWord = true := by decide +kernel
theorem cls_2 : mCls 2 RX2 TX2 := ⟨rfl, fun w hw => List.mem_filter.mpr ⟨inw_2 w hw, List.all_eq_true.mp gdw_2 w hw⟩, nmX2, tyX2_ok⟩
theorem inw_3 : ∀ w ∈ u_ws RX3 TX3 6, w ∈ lw_tbl := by decide +kernel
theorem gdw_3 : (u_ws RX3 TX3 6).all goodWord = true := by decide +kernel
theorem cls_3 : mCls 3 RX3 TX3 := ⟨rfl, fun w hw => List.mem_filter.mpr ⟨inw_3 w hw, List.all_eq_true.mp gdw_3 w hw⟩, nmX3, tyX3_ok⟩
theorem inw_4 : ∀ w ∈ u_ws RX4 TX4 4, w ∈ lw_tbl := by decide +kernel
theorem gdw_4 : (u_ws RX4 TX4 4).all goodWord = true := by decide +kernel
theorem cls_4 : mCls 4 RX4 TX4 := ⟨rfl, fun w hw => List.mem_filter.mpr ⟨inw_4 w hw, List.all_eq_true.mp gdw_4 w hw⟩, nmX4, tyX4_ok⟩
theorem inw_5 : ∀ w ∈ u_ws RX5 TX5 6, w ∈ lw_tbl := by decide +kernel
theorem gdw_5 : (u_ws RX5 TX5 6).all goodWord = true := by decide +kernel
theorem cls_5 : mCls 5 RX5 TX5 := ⟨rfl, fun w hw => List.mem_filter.mpr ⟨inw_5 w hw, List.all_eq_true.mp gdw_5 w hw⟩, nmX5, tyX5_ok⟩
theorem inw_6 : ∀ w ∈ u_ws RX6 TX6 10, w ∈ lw_tbl := by decide +kernel
theorem gdw_6 : (u_ws RX6 TX6 10).all goodWord = true := by decide +kernel
theorem cls_6 : mCls 6 RX6 TX6 := ⟨rfl, fun w hw => List.mem_filter.mpr ⟨inw_6 w hw, List.all_eq_true.mp gdw_6 w hw⟩, nmX6, tyX6_ok⟩
theorem inw_7 : ∀ w ∈ u_ws RX7 TX7 4, w ∈ lw_tbl := by decide +kernel
theorem gdw_7 : (u_ws RX7 TX7 4).all goodWord = true := by decide +kernel
theorem cls_7 : mCls 7 RX7 TX7 := ⟨rfl, fun w hw => List.mem_filter.mpr ⟨inw_7 w hw, List.all_eq_true.mp gdw_7 w hw⟩, nmX7, tyX7_ok⟩
theorem inw_8 : ∀ w ∈ u_ws RX8 TX8 16, w ∈ lw_tbl := by decide +kernel
theorem gdw_8 : (u_ws RX8 TX8 16).all goodWord = true := by decide +kernel
theorem cls_8 : mCls 8 RX8 TX8 := ⟨rfl, fun w hw => List.mem_filter.mpr ⟨inw_8 w hw, List.all_eq_true.mp gdw_8 w hw⟩, nmX8, tyX8_ok⟩
theorem inw_9 : ∀ w ∈ u_ws RX9 TX9 5, w ∈ lw_tbl := by decide +kernel
theorem gdw_9 : (u_ws RX9 TX9 5).all goodWord = true := by decide +kernel
theorem cls_9 : mCls 9 RX9 TX9 := ⟨rfl, fun w hw => List.mem_filter.mpr ⟨inw_9 w hw, List.all_eq_true.mp gdw_9 w hw⟩, nmX9, tyX9_ok⟩
theorem inw_10 : ∀ w ∈ u_ws RX10 TX10 8, w ∈ lw_tbl := by decide +kernel
theorem gdw_10 : (u_ws RX10 TX10 8).all goodWord = true := by decide +kernel
theorem cls_10 : mCls 10 RX10 TX10 := ⟨rfl, fun w hw => List.mem_filter.mpr ⟨inw_10 w hw, List.all_eq_true.mp gdw_10 w hw⟩, nmX10, tyX10_ok⟩
theorem inw_11 : ∀ w ∈ u_ws RX11 TX11 7, w ∈ lw_tbl := by decide +kernel
theorem gdw_11 : (u_ws RX11 TX11 7).all goodWord = true := by decide +kernel
theorem cls_11 : mCls 11 RX11 TX11 := ⟨rfl, fun w hw => List.mem_filter.mpr ⟨inw_11 w hw, List.all_eq_true.mp gdw_11 w hw⟩, nmX11, tyX11_ok⟩
theorem inw_12 : ∀ w ∈ u_ws RX12 TX12 69, w ∈ lw_tbl := by decide +kernel
theorem gdw_12 : (u_ws RX12 TX12 69).all goodWord = true := by decide +kernel
theorem cls_12 : mCls 12 RX12 TX12 := ⟨rfl, fun w hw => List.mem_filter.mpr ⟨inw_12 w hw, List.all_eq_true.mp gdw_12 w hw⟩, nmX12, tyX12_ok⟩
theorem aT_20 : mArrT .int 20 12 := ⟨rfl, by decide⟩
theorem aT_21 : mArrT .int 21 12 := ⟨rfl, by decide⟩
theorem aT_22 : mArrT .int 22 12 := ⟨rfl, by decide⟩
theorem aT_23 : mArrT .int 23 12 := ⟨rfl, by decide⟩
theorem aR_24 (i : Nat) (x : Int32) : mArrR 24 24 i x (6, x.toNatClampNeg) := ⟨(.object "DriverBook$Field"), 5, rfl, by decide, rfl, rfl, rfl, fun _ q => q⟩
theorem aR_25 (i : Nat) (x : Int32) : mArrR 25 12 i x (7, x.toNatClampNeg) := ⟨(.object "DriverBook$Law"), 6, rfl, by decide, rfl, rfl, rfl, fun _ q => q⟩
theorem aR_26 (i : Nat) (x : Int32) : mArrR 26 6 i x (0, x.toNatClampNeg) := ⟨(.object "DriverBook$Act"), 4, rfl, by decide, rfl, rfl, rfl, fun _ q => q⟩
theorem aR_27 (i : Nat) (x : Int32) : mArrR 27 8 i x (28, x.toNatClampNeg) := ⟨(.array .int), 3, rfl, by decide, rfl, rfl, rfl, fun _ q => q⟩
theorem aT_28 : mArrT .int 28 16 := ⟨rfl, by decide⟩
theorem aT_29 : mArrT .int 29 8 := ⟨rfl, by decide⟩
theorem aT_30 : mArrT .int 30 8 := ⟨rfl, by decide⟩
theorem aT_31 : mArrT .int 31 24 := ⟨rfl, by decide⟩
theorem aT_32 : mArrT .int 32 288 := ⟨rfl, by decide⟩
theorem aT_33 : mArrT .int 33 24 := ⟨rfl, by decide⟩
theorem aT_34 : mArrT .int 34 24 := ⟨rfl, by decide⟩
theorem aT_35 : mArrT .int 35 24 := ⟨rfl, by decide⟩
theorem aT_36 : mArrT .int 36 24 := ⟨rfl, by decide⟩
theorem aT_37 : mArrT .long 37 24 := ⟨rfl, by decide⟩
theorem aT_38 : mArrT .int 38 8 := ⟨rfl, by decide⟩
theorem aT_39 : mArrT .int 39 16 := ⟨rfl, by decide⟩
theorem aT_40 : mArrT .int 40 16 := ⟨rfl, by decide⟩
theorem aT_41 : mArrT .long 41 16 := ⟨rfl, by decide⟩
theorem aT_42 : mArrT .long 42 64 := ⟨rfl, by decide⟩
theorem aT_43 : mArrT .int 43 24 := ⟨rfl, by decide⟩
theorem aT_44 : mArrT .int 44 24 := ⟨rfl, by decide⟩
theorem aR_45 (i : Nat) (x : Int32) : mArrR 45 6 i x (9, x.toNatClampNeg) := ⟨(.object "DriverBook$Tape"), 7, rfl, by decide, rfl, rfl, rfl, fun _ q => q⟩
theorem aT_46 : mArrT .int 46 24 := ⟨rfl, by decide⟩
theorem aT_47 : mArrT .int 47 24 := ⟨rfl, by decide⟩
theorem aT_48 : mArrT .int 48 24 := ⟨rfl, by decide⟩
theorem aT_49 : mArrT .int 49 24 := ⟨rfl, by decide⟩
theorem aT_50 : mArrT .int 50 24 := ⟨rfl, by decide⟩
theorem aT_51 : mArrT .int 51 24 := ⟨rfl, by decide⟩
theorem aT_52 : mArrT .int 52 24 := ⟨rfl, by decide⟩
theorem aT_53 : mArrT .int 53 24 := ⟨rfl, by decide⟩
theorem aT_54 : mArrT .int 54 12 := ⟨rfl, by decide⟩
theorem aT_55 : mArrT .int 55 12 := ⟨rfl, by decide⟩
theorem aT_56 : mArrT .int 56 12 := ⟨rfl, by decide⟩
theorem aT_57 : mArrT .int 57 12 := ⟨rfl, by decide⟩
theorem aT_58 : mArrT .int 58 6 := ⟨rfl, by decide⟩
theorem aT_59 : mArrT .int 59 72 := ⟨rfl, by decide⟩
theorem aT_60 : mArrT .int 60 72 := ⟨rfl, by decide⟩
theorem aT_61 : mArrT .int 61 72 := ⟨rfl, by decide⟩
theorem aT_62 : mArrT .int 62 72 := ⟨rfl, by decide⟩
theorem aT_63 : mArrT .int 63 24 := ⟨rfl, by decide⟩
theorem aT_64 : mArrT .int 64 24 := ⟨rfl, by decide⟩
theorem aT_65 : mArrT .int 65 24 := ⟨rfl, by decide⟩
theorem aT_66 : mArrT .int 66 24 := ⟨rfl, by decide⟩
theorem aT_67 : mArrT .int 67 24 := ⟨rfl, by decide⟩
theorem aT_68 : mArrT .int 68 8 := ⟨rfl, by decide⟩
theorem aT_69 : mArrT .int 69 17 := ⟨rfl, by decide⟩
theorem aT_70 : mArrT .int 70 17 := ⟨rfl, by decide⟩
theorem aT_71 : mArrT .int 71 17 := ⟨rfl, by decide⟩
theorem aT_72 : mArrT .int 72 8 := ⟨rfl, by decide⟩
theorem aT_73 : mArrT .int 73 192 := ⟨rfl, by decide⟩
theorem aT_74 : mArrT .int 74 192 := ⟨rfl, by decide⟩
theorem aT_75 : mArrT .int 75 192 := ⟨rfl, by decide⟩
theorem aT_76 : mArrT .int 76 192 := ⟨rfl, by decide⟩
theorem aT_77 : mArrT .int 77 192 := ⟨rfl, by decide⟩
theorem aT_78 : mArrT .int 78 64 := ⟨rfl, by decide⟩
theorem aT_79 : mArrT .int 79 8 := ⟨rfl, by decide⟩
theorem aT_80 : mArrT .int 80 136 := ⟨rfl, by decide⟩
theorem aT_81 : mArrT .int 81 136 := ⟨rfl, by decide⟩
theorem aT_82 : mArrT .int 82 136 := ⟨rfl, by decide⟩
theorem aT_83 : mArrT .int 83 8 := ⟨rfl, by decide⟩
theorem aT_84 : mArrT .int 84 8 := ⟨rfl, by decide⟩
theorem aT_85 : mArrT .int 85 8 := ⟨rfl, by decide⟩
theorem aT_86 : mArrT .int 86 8 := ⟨rfl, by decide⟩
theorem aT_87 : mArrT .int 87 8 := ⟨rfl, by decide⟩
theorem aT_88 : mArrT .int 88 8 := ⟨rfl, by decide⟩
theorem aT_89 : mArrT .int 89 6 := ⟨rfl, by decide⟩
theorem aT_90 : mArrT .int 90 6 := ⟨rfl, by decide⟩
theorem aT_91 : mArrT .long 91 384 := ⟨rfl, by decide⟩
theorem aT_92 : mArrT .boolean 92 24 := ⟨rfl, by decide⟩
theorem aT_93 : mArrT .int 93 2 := ⟨rfl, by decide⟩
theorem aT_94 : mArrT .int 94 600 := ⟨rfl, by decide⟩
theorem aT_95 : mArrT .int 95 2 := ⟨rfl, by decide⟩
theorem aT_96 : mArrT .long 96 64 := ⟨rfl, by decide⟩
theorem aT_98 : mArrT .long 98 1 := ⟨rfl, by decide⟩
theorem kf_RX11_10 : Cond.fieldLink "DriverBook" 10 "DriverBook" "book" "LDriverBook$Book;" ∈ mTb := tm2 (List.mem_of_getElem? (i := 234) (by decide +kernel)) (by decide +kernel)
theorem gR_RX11_10 (i : Nat) : mGetR RX11 10 11 0 i (1, 0) := ⟨11, RX11, TX11, cls_11, rfl, by decide, by decide, rfl, kf_RX11_10, rfl, fun _ => by decide⟩
theorem kf_RX11_19 : Cond.fieldLink "DriverBook" 19 "DriverBook" "state" "LDriverBook$State;" ∈ mTb := tm2 (List.mem_of_getElem? (i := 235) (by decide +kernel)) (by decide +kernel)
theorem gR_RX11_19 (i : Nat) : mGetR RX11 19 11 1 i (8, 0) := ⟨11, RX11, TX11, cls_11, rfl, by decide, by decide, rfl, kf_RX11_19, rfl, fun _ => by decide⟩
theorem kf_RX11_28 : Cond.fieldLink "DriverBook" 28 "DriverBook" "chip" "LDriverBook$Chip;" ∈ mTb := tm2 (List.mem_of_getElem? (i := 236) (by decide +kernel)) (by decide +kernel)
theorem gR_RX11_28 (i : Nat) : mGetR RX11 28 11 2 i (2, 0) := ⟨11, RX11, TX11, cls_11, rfl, by decide, by decide, rfl, kf_RX11_28, rfl, fun _ => by decide⟩
theorem kf_RX11_37 : Cond.fieldLink "DriverBook" 37 "DriverBook" "driver" "LDriverBook$Driver;" ∈ mTb := tm2 (List.mem_of_getElem? (i := 237) (by decide +kernel)) (by decide +kernel)
theorem gR_RX11_37 (i : Nat) : mGetR RX11 37 11 3 i (5, 0) := ⟨11, RX11, TX11, cls_11, rfl, by decide, by decide, rfl, kf_RX11_37, rfl, fun _ => by decide⟩
theorem kf_RX11_46 : Cond.fieldLink "DriverBook" 46 "DriverBook" "walker" "LDriverBook$Walker;" ∈ mTb := tm2 (List.mem_of_getElem? (i := 238) (by decide +kernel)) (by decide +kernel)
theorem gR_RX11_46 (i : Nat) : mGetR RX11 46 11 4 i (10, 0) := ⟨11, RX11, TX11, cls_11, rfl, by decide, by decide, rfl, kf_RX11_46, rfl, fun _ => by decide⟩
theorem kf_RX11_52 : Cond.fieldLink "DriverBook" 52 "DriverBook" "tapes" "[LDriverBook$Tape;" ∈ mTb := tm2 (List.mem_of_getElem? (i := 239) (by decide +kernel)) (by decide +kernel)
theorem gR_RX11_52 (i : Nat) : mGetR RX11 52 11 5 i (45, i) := ⟨11, RX11, TX11, cls_11, rfl, by decide, by decide, rfl, kf_RX11_52, rfl, fun q => q⟩
theorem kf_RX11_57 : Cond.fieldLink "DriverBook" 57 "DriverBook" "hostRefusals" "I" ∈ mTb := tm3 (List.mem_of_getElem? (i := 0) (by decide +kernel)) (by decide +kernel)
theorem gI_RX11_57 : mGetI RX11 57 11 6 := ⟨11, RX11, TX11, cls_11, rfl, by decide, by decide, rfl, by decide, kf_RX11_57⟩
theorem pI_RX11_57 : mPutI RX11 57 11 6 .int := ⟨11, RX11, TX11, cls_11, rfl, by decide, by decide, rfl, rfl, by decide, rfl, kf_RX11_57⟩
theorem kf_RX11_85 : Cond.fieldLink "DriverBook" 85 "DriverBook$Book" "fieldCount" "I" ∈ mTb := tm1 (List.mem_of_getElem? (i := 201) (by decide +kernel)) (by decide +kernel)
theorem gI_RX11_85 : mGetI RX11 85 1 4 := ⟨1, RX1, TX1, cls_1, rfl, by decide, by decide, rfl, by decide, kf_RX11_85⟩
theorem kf_RX11_95 : Cond.fieldLink "DriverBook" 95 "DriverBook$Book" "fields" "[LDriverBook$Field;" ∈ mTb := tm1 (List.mem_of_getElem? (i := 188) (by decide +kernel)) (by decide +kernel)
theorem gR_RX11_95 (i : Nat) : mGetR RX11 95 1 0 i (24, i) := ⟨1, RX1, TX1, cls_1, rfl, by decide, by decide, rfl, kf_RX11_95, rfl, fun q => q⟩
theorem kf_RX11_99 : Cond.fieldLink "DriverBook" 99 "DriverBook$Field" "kind" "I" ∈ mTb := tm1 (List.mem_of_getElem? (i := 58) (by decide +kernel)) (by decide +kernel)
theorem gI_RX11_99 : mGetI RX11 99 6 3 := ⟨6, RX6, TX6, cls_6, rfl, by decide, by decide, rfl, by decide, kf_RX11_99⟩
theorem kf_RX11_111 : Cond.fieldLink "DriverBook" 111 "DriverBook$Book" "lawCount" "I" ∈ mTb := tm1 (List.mem_of_getElem? (i := 205) (by decide +kernel)) (by decide +kernel)
theorem gI_RX11_111 : mGetI RX11 111 1 5 := ⟨1, RX1, TX1, cls_1, rfl, by decide, by decide, rfl, by decide, kf_RX11_111⟩
theorem kf_RX11_118 : Cond.fieldLink "DriverBook" 118 "DriverBook$Book" "actCount" "I" ∈ mTb := tm1 (List.mem_of_getElem? (i := 208) (by decide +kernel)) (by decide +kernel)
theorem gI_RX11_118 : mGetI RX11 118 1 6 := ⟨1, RX1, TX1, cls_1, rfl, by decide, by decide, rfl, by decide, kf_RX11_118⟩
theorem kf_RX11_137 : Cond.fieldLink "DriverBook" 137 "DriverBook$Book" "acts" "[LDriverBook$Act;" ∈ mTb := tm1 (List.mem_of_getElem? (i := 196) (by decide +kernel)) (by decide +kernel)
theorem gR_RX11_137 (i : Nat) : mGetR RX11 137 1 2 i (26, i) := ⟨1, RX1, TX1, cls_1, rfl, by decide, by decide, rfl, kf_RX11_137, rfl, fun q => q⟩
theorem kf_RX11_141 : Cond.fieldLink "DriverBook" 141 "DriverBook$Act" "stepCount" "I" ∈ mTb := tm1 (List.mem_of_getElem? (i := 170) (by decide +kernel)) (by decide +kernel)
theorem gI_RX11_141 : mGetI RX11 141 0 5 := ⟨0, RX0, TX0, cls_0, rfl, by decide, by decide, rfl, by decide, kf_RX11_141⟩
theorem kf_RX11_159 : Cond.fieldLink "DriverBook" 159 "DriverBook$Act" "code" "LDriverBook$Code;" ∈ mTb := tm1 (List.mem_of_getElem? (i := 166) (by decide +kernel)) (by decide +kernel)
theorem gR_RX11_159 (i : Nat) : mGetR RX11 159 0 4 i (3, i) := ⟨0, RX0, TX0, cls_0, rfl, by decide, by decide, rfl, kf_RX11_159, rfl, fun q => q⟩
theorem kf_RX11_163 : Cond.fieldLink "DriverBook" 163 "DriverBook$Code" "size" "I" ∈ mTb := tm1 (List.mem_of_getElem? (i := 137) (by decide +kernel)) (by decide +kernel)
theorem gI_RX11_163 : mGetI RX11 163 3 1 := ⟨3, RX3, TX3, cls_3, rfl, by decide, by decide, rfl, by decide, kf_RX11_163⟩
theorem kf_RX11_175 : Cond.fieldLink "DriverBook" 175 "DriverBook$Field" "width" "I" ∈ mTb := tm1 (List.mem_of_getElem? (i := 55) (by decide +kernel)) (by decide +kernel)
theorem gI_RX11_175 : mGetI RX11 175 6 2 := ⟨6, RX6, TX6, cls_6, rfl, by decide, by decide, rfl, by decide, kf_RX11_175⟩
theorem kf_RX11_178 : Cond.fieldLink "DriverBook" 178 "DriverBook$State" "now" "J" ∈ mTb := tm2 (List.mem_of_getElem? (i := 41) (by decide +kernel)) (by decide +kernel)
theorem gJ_RX11_178 : mGetJ RX11 178 8 10 := ⟨8, RX8, TX8, cls_8, rfl, by decide, by decide, rfl, kf_RX11_178⟩
theorem kf_RX11_182 : Cond.fieldLink "DriverBook" 182 "DriverBook$State" "eventCount" "I" ∈ mTb := tm2 (List.mem_of_getElem? (i := 37) (by decide +kernel)) (by decide +kernel)
theorem gI_RX11_182 : mGetI RX11 182 8 9 := ⟨8, RX8, TX8, cls_8, rfl, by decide, by decide, rfl, by decide, kf_RX11_182⟩
theorem kf_RX11_207 : Cond.fieldLink "DriverBook" 207 "DriverBook$State" "value" "[I" ∈ mTb := tm2 (List.mem_of_getElem? (i := 10) (by decide +kernel)) (by decide +kernel)
theorem gR_RX11_207 (i : Nat) : mGetR RX11 207 8 0 i (33, i) := ⟨8, RX8, TX8, cls_8, rfl, by decide, by decide, rfl, kf_RX11_207, rfl, fun q => q⟩
theorem kf_RX11_211 : Cond.fieldLink "DriverBook" 211 "DriverBook$State" "pending" "[I" ∈ mTb := tm2 (List.mem_of_getElem? (i := 14) (by decide +kernel)) (by decide +kernel)
theorem gR_RX11_211 (i : Nat) : mGetR RX11 211 8 1 i (34, i) := ⟨8, RX8, TX8, cls_8, rfl, by decide, by decide, rfl, kf_RX11_211, rfl, fun q => q⟩
theorem kf_RX11_214 : Cond.fieldLink "DriverBook" 214 "DriverBook$State" "timer" "[I" ∈ mTb := tm2 (List.mem_of_getElem? (i := 17) (by decide +kernel)) (by decide +kernel)
theorem gR_RX11_214 (i : Nat) : mGetR RX11 214 8 2 i (35, i) := ⟨8, RX8, TX8, cls_8, rfl, by decide, by decide, rfl, kf_RX11_214, rfl, fun q => q⟩
theorem kf_RX11_217 : Cond.fieldLink "DriverBook" 217 "DriverBook$State" "soft" "[I" ∈ mTb := tm2 (List.mem_of_getElem? (i := 21) (by decide +kernel)) (by decide +kernel)
theorem gR_RX11_217 (i : Nat) : mGetR RX11 217 8 3 i (36, i) := ⟨8, RX8, TX8, cls_8, rfl, by decide, by decide, rfl, kf_RX11_217, rfl, fun q => q⟩
theorem kf_RX11_220 : Cond.fieldLink "DriverBook" 220 "DriverBook$State" "shadow" "[I" ∈ mTb := tm2 (List.mem_of_getElem? (i := 27) (by decide +kernel)) (by decide +kernel)
theorem gR_RX11_220 (i : Nat) : mGetR RX11 220 8 5 i (38, i) := ⟨8, RX8, TX8, cls_8, rfl, by decide, by decide, rfl, kf_RX11_220, rfl, fun q => q⟩
theorem kf_RX11_223 : Cond.fieldLink "DriverBook" 223 "DriverBook$State" "result" "I" ∈ mTb := tm2 (List.mem_of_getElem? (i := 44) (by decide +kernel)) (by decide +kernel)
theorem gI_RX11_223 : mGetI RX11 223 8 11 := ⟨8, RX8, TX8, cls_8, rfl, by decide, by decide, rfl, by decide, kf_RX11_223⟩
theorem kf_RX11_226 : Cond.fieldLink "DriverBook" 226 "DriverBook$State" "breakCount" "J" ∈ mTb := tm2 (List.mem_of_getElem? (i := 52) (by decide +kernel)) (by decide +kernel)
theorem gJ_RX11_226 : mGetJ RX11 226 8 13 := ⟨8, RX8, TX8, cls_8, rfl, by decide, by decide, rfl, kf_RX11_226⟩
theorem kf_RX11_229 : Cond.fieldLink "DriverBook" 229 "DriverBook$State" "firstLaw" "I" ∈ mTb := tm2 (List.mem_of_getElem? (i := 54) (by decide +kernel)) (by decide +kernel)
theorem gI_RX11_229 : mGetI RX11 229 8 14 := ⟨8, RX8, TX8, cls_8, rfl, by decide, by decide, rfl, by decide, kf_RX11_229⟩
theorem kf_RX11_232 : Cond.fieldLink "DriverBook" 232 "DriverBook$State" "firstNow" "J" ∈ mTb := tm2 (List.mem_of_getElem? (i := 56) (by decide +kernel)) (by decide +kernel)
theorem gJ_RX11_232 : mGetJ RX11 232 8 15 := ⟨8, RX8, TX8, cls_8, rfl, by decide, by decide, rfl, kf_RX11_232⟩
theorem kf_RX11_235 : Cond.fieldLink "DriverBook" 235 "DriverBook$Field" "handler" "I" ∈ mTb := tm1 (List.mem_of_getElem? (i := 77) (by decide +kernel)) (by decide +kernel)
theorem gI_RX11_235 : mGetI RX11 235 6 9 := ⟨6, RX6, TX6, cls_6, rfl, by decide, by decide, rfl, by decide, kf_RX11_235⟩
theorem kf_RX11_247 : Cond.fieldLink "DriverBook" 247 "DriverBook$Walker" "rule" "I" ∈ mTb := tm2 (List.mem_of_getElem? (i := 185) (by decide +kernel)) (by decide +kernel)
theorem gI_RX11_247 : mGetI RX11 247 10 6 := ⟨10, RX10, TX10, cls_10, rfl, by decide, by decide, rfl, by decide, kf_RX11_247⟩
theorem kf_RX11_250 : Cond.fieldLink "DriverBook" 250 "DriverBook$Walker" "ruleField" "I" ∈ mTb := tm2 (List.mem_of_getElem? (i := 187) (by decide +kernel)) (by decide +kernel)
theorem gI_RX11_250 : mGetI RX11 250 10 7 := ⟨10, RX10, TX10, cls_10, rfl, by decide, by decide, rfl, by decide, kf_RX11_250⟩
theorem kf_RX11_262 : Cond.fieldLink "DriverBook" 262 "DriverBook$Book" "age" "I" ∈ mTb := tm1 (List.mem_of_getElem? (i := 213) (by decide +kernel)) (by decide +kernel)
theorem gI_RX11_262 : mGetI RX11 262 1 8 := ⟨1, RX1, TX1, cls_1, rfl, by decide, by decide, rfl, by decide, kf_RX11_262⟩
theorem kf_RX11_269 : Cond.fieldLink "DriverBook" 269 "DriverBook$Tape" "sort" "I" ∈ mTb := tm2 (List.mem_of_getElem? (i := 215) (by decide +kernel)) (by decide +kernel)
theorem gI_RX11_269 : mGetI RX11 269 9 0 := ⟨9, RX9, TX9, cls_9, rfl, by decide, by decide, rfl, by decide, kf_RX11_269⟩
theorem pI_RX11_269 : mPutI RX11 269 9 0 .int := ⟨9, RX9, TX9, cls_9, rfl, by decide, by decide, rfl, rfl, by decide, rfl, kf_RX11_269⟩
theorem kf_RX11_272 : Cond.fieldLink "DriverBook" 272 "DriverBook$Tape" "age" "I" ∈ mTb := tm2 (List.mem_of_getElem? (i := 222) (by decide +kernel)) (by decide +kernel)
theorem gI_RX11_272 : mGetI RX11 272 9 4 := ⟨9, RX9, TX9, cls_9, rfl, by decide, by decide, rfl, by decide, kf_RX11_272⟩
theorem kf_RX11_273 : Cond.fieldLink "DriverBook" 273 "DriverBook$Tape" "image" "LDriverBook$State;" ∈ mTb := tm2 (List.mem_of_getElem? (i := 220) (by decide +kernel)) (by decide +kernel)
theorem gR_RX11_273 (i : Nat) : mGetR RX11 273 9 3 i (8, i + 2) := ⟨9, RX9, TX9, cls_9, rfl, by decide, by decide, rfl, kf_RX11_273, rfl, fun q => Nat.add_lt_add_right q 2⟩
theorem kf_RX11_288 : Cond.fieldLink "DriverBook" 288 "DriverBook$Tape" "row" "[J" ∈ mTb := tm2 (List.mem_of_getElem? (i := 218) (by decide +kernel)) (by decide +kernel)
theorem gR_RX11_288 (i : Nat) : mGetR RX11 288 9 2 i (42, i) := ⟨9, RX9, TX9, cls_9, rfl, by decide, by decide, rfl, kf_RX11_288, rfl, fun q => q⟩
theorem kf_RX11_319 : Cond.fieldLink "DriverBook" 319 "DriverBook$Book" "registerCount" "I" ∈ mTb := tm1 (List.mem_of_getElem? (i := 198) (by decide +kernel)) (by decide +kernel)
theorem gI_RX11_319 : mGetI RX11 319 1 3 := ⟨1, RX1, TX1, cls_1, rfl, by decide, by decide, rfl, by decide, kf_RX11_319⟩
theorem kf_RX11_322 : Cond.fieldLink "DriverBook" 322 "DriverBook$State" "served" "I" ∈ mTb := tm2 (List.mem_of_getElem? (i := 48) (by decide +kernel)) (by decide +kernel)
theorem gI_RX11_322 : mGetI RX11 322 8 12 := ⟨8, RX8, TX8, cls_8, rfl, by decide, by decide, rfl, by decide, kf_RX11_322⟩
theorem kf_RX11_325 : Cond.fieldLink "DriverBook" 325 "DriverBook$Book" "locks" "I" ∈ mTb := tm1 (List.mem_of_getElem? (i := 211) (by decide +kernel)) (by decide +kernel)
theorem gI_RX11_325 : mGetI RX11 325 1 7 := ⟨1, RX1, TX1, cls_1, rfl, by decide, by decide, rfl, by decide, kf_RX11_325⟩
theorem kf_RX0_9 : Cond.fieldLink "DriverBook$Act" 9 "DriverBook$Act" "kinds" "[I" ∈ mTb := tm1 (List.mem_of_getElem? (i := 156) (by decide +kernel)) (by decide +kernel)
theorem gR_RX0_9 (i : Nat) : mGetR RX0 9 0 0 i (20, i) := ⟨0, RX0, TX0, cls_0, rfl, by decide, by decide, rfl, kf_RX0_9, rfl, fun q => q⟩
theorem kf_RX0_15 : Cond.fieldLink "DriverBook$Act" 15 "DriverBook$Act" "stepFields" "[I" ∈ mTb := tm1 (List.mem_of_getElem? (i := 158) (by decide +kernel)) (by decide +kernel)
theorem gR_RX0_15 (i : Nat) : mGetR RX0 15 0 1 i (21, i) := ⟨0, RX0, TX0, cls_0, rfl, by decide, by decide, rfl, kf_RX0_15, rfl, fun q => q⟩
theorem kf_RX0_18 : Cond.fieldLink "DriverBook$Act" 18 "DriverBook$Act" "numbers" "[I" ∈ mTb := tm1 (List.mem_of_getElem? (i := 160) (by decide +kernel)) (by decide +kernel)
theorem gR_RX0_18 (i : Nat) : mGetR RX0 18 0 2 i (22, i) := ⟨0, RX0, TX0, cls_0, rfl, by decide, by decide, rfl, kf_RX0_18, rfl, fun q => q⟩
theorem kf_RX0_21 : Cond.fieldLink "DriverBook$Act" 21 "DriverBook$Act" "limits" "[I" ∈ mTb := tm1 (List.mem_of_getElem? (i := 162) (by decide +kernel)) (by decide +kernel)
theorem gR_RX0_21 (i : Nat) : mGetR RX0 21 0 3 i (23, i) := ⟨0, RX0, TX0, cls_0, rfl, by decide, by decide, rfl, kf_RX0_21, rfl, fun q => q⟩
theorem kf_RX0_31 : Cond.fieldLink "DriverBook$Act" 31 "DriverBook$Act" "stepCount" "I" ∈ mTb := tm1 (List.mem_of_getElem? (i := 168) (by decide +kernel)) (by decide +kernel)
theorem gI_RX0_31 : mGetI RX0 31 0 5 := ⟨0, RX0, TX0, cls_0, rfl, by decide, by decide, rfl, by decide, kf_RX0_31⟩
theorem pI_RX0_31 : mPutI RX0 31 0 5 .int := ⟨0, RX0, TX0, cls_0, rfl, by decide, by decide, rfl, rfl, by decide, rfl, kf_RX0_31⟩
theorem kf_RX1_11 : Cond.fieldLink "DriverBook$Book" 11 "DriverBook$Book" "fields" "[LDriverBook$Field;" ∈ mTb := tm1 (List.mem_of_getElem? (i := 185) (by decide +kernel)) (by decide +kernel)
theorem gR_RX1_11 (i : Nat) : mGetR RX1 11 1 0 i (24, i) := ⟨1, RX1, TX1, cls_1, rfl, by decide, by decide, rfl, kf_RX1_11, rfl, fun q => q⟩
theorem kf_RX1_19 : Cond.fieldLink "DriverBook$Book" 19 "DriverBook$Book" "laws" "[LDriverBook$Law;" ∈ mTb := tm1 (List.mem_of_getElem? (i := 191) (by decide +kernel)) (by decide +kernel)
theorem gR_RX1_19 (i : Nat) : mGetR RX1 19 1 1 i (25, i) := ⟨1, RX1, TX1, cls_1, rfl, by decide, by decide, rfl, kf_RX1_19, rfl, fun q => q⟩
theorem kf_RX1_25 : Cond.fieldLink "DriverBook$Book" 25 "DriverBook$Book" "acts" "[LDriverBook$Act;" ∈ mTb := tm1 (List.mem_of_getElem? (i := 193) (by decide +kernel)) (by decide +kernel)
theorem gR_RX1_25 (i : Nat) : mGetR RX1 25 1 2 i (26, i) := ⟨1, RX1, TX1, cls_1, rfl, by decide, by decide, rfl, kf_RX1_25, rfl, fun q => q⟩
theorem kf_RX1_29 : Cond.fieldLink "DriverBook$Book" 29 "DriverBook$Book" "registerCount" "I" ∈ mTb := tm1 (List.mem_of_getElem? (i := 197) (by decide +kernel)) (by decide +kernel)
theorem gI_RX1_29 : mGetI RX1 29 1 3 := ⟨1, RX1, TX1, cls_1, rfl, by decide, by decide, rfl, by decide, kf_RX1_29⟩
theorem pI_RX1_29 : mPutI RX1 29 1 3 .int := ⟨1, RX1, TX1, cls_1, rfl, by decide, by decide, rfl, rfl, by decide, rfl, kf_RX1_29⟩
theorem kf_RX1_33 : Cond.fieldLink "DriverBook$Book" 33 "DriverBook$Book" "fieldCount" "I" ∈ mTb := tm1 (List.mem_of_getElem? (i := 199) (by decide +kernel)) (by decide +kernel)
theorem gI_RX1_33 : mGetI RX1 33 1 4 := ⟨1, RX1, TX1, cls_1, rfl, by decide, by decide, rfl, by decide, kf_RX1_33⟩
theorem pI_RX1_33 : mPutI RX1 33 1 4 .int := ⟨1, RX1, TX1, cls_1, rfl, by decide, by decide, rfl, rfl, by decide, rfl, kf_RX1_33⟩
theorem kf_RX1_36 : Cond.fieldLink "DriverBook$Book" 36 "DriverBook$Book" "lawCount" "I" ∈ mTb := tm1 (List.mem_of_getElem? (i := 204) (by decide +kernel)) (by decide +kernel)
theorem gI_RX1_36 : mGetI RX1 36 1 5 := ⟨1, RX1, TX1, cls_1, rfl, by decide, by decide, rfl, by decide, kf_RX1_36⟩
theorem pI_RX1_36 : mPutI RX1 36 1 5 .int := ⟨1, RX1, TX1, cls_1, rfl, by decide, by decide, rfl, rfl, by decide, rfl, kf_RX1_36⟩
theorem kf_RX1_39 : Cond.fieldLink "DriverBook$Book" 39 "DriverBook$Book" "actCount" "I" ∈ mTb := tm1 (List.mem_of_getElem? (i := 207) (by decide +kernel)) (by decide +kernel)
theorem gI_RX1_39 : mGetI RX1 39 1 6 := ⟨1, RX1, TX1, cls_1, rfl, by decide, by decide, rfl, by decide, kf_RX1_39⟩
theorem pI_RX1_39 : mPutI RX1 39 1 6 .int := ⟨1, RX1, TX1, cls_1, rfl, by decide, by decide, rfl, rfl, by decide, rfl, kf_RX1_39⟩
theorem kf_RX1_42 : Cond.fieldLink "DriverBook$Book" 42 "DriverBook$Book" "locks" "I" ∈ mTb := tm1 (List.mem_of_getElem? (i := 209) (by decide +kernel)) (by decide +kernel)
theorem gI_RX1_42 : mGetI RX1 42 1 7 := ⟨1, RX1, TX1, cls_1, rfl, by decide, by decide, rfl, by decide, kf_RX1_42⟩
theorem pI_RX1_42 : mPutI RX1 42 1 7 .int := ⟨1, RX1, TX1, cls_1, rfl, by decide, by decide, rfl, rfl, by decide, rfl, kf_RX1_42⟩
theorem kf_RX1_45 : Cond.fieldLink "DriverBook$Book" 45 "DriverBook$Book" "age" "I" ∈ mTb := tm1 (List.mem_of_getElem? (i := 212) (by decide +kernel)) (by decide +kernel)
theorem gI_RX1_45 : mGetI RX1 45 1 8 := ⟨1, RX1, TX1, cls_1, rfl, by decide, by decide, rfl, by decide, kf_RX1_45⟩
theorem pI_RX1_45 : mPutI RX1 45 1 8 .int := ⟨1, RX1, TX1, cls_1, rfl, by decide, by decide, rfl, rfl, by decide, rfl, kf_RX1_45⟩
theorem kf_RX1_48 : Cond.fieldLink "DriverBook$Book" 48 "DriverBook$Book" "codeIsMade" "Z" ∈ mTb := tm1 (List.mem_of_getElem? (i := 214) (by decide +kernel)) (by decide +kernel)
theorem gI_RX1_48 : mGetI RX1 48 1 9 := ⟨1, RX1, TX1, cls_1, rfl, by decide, by decide, rfl, by decide, kf_RX1_48⟩
theorem pI_RX1_48 : mPutI RX1 48 1 9 .boolean := ⟨1, RX1, TX1, cls_1, rfl, by decide, by decide, rfl, rfl, by decide, rfl, kf_RX1_48⟩
theorem kf_RX1_55 : Cond.fieldLink "DriverBook$Book" 55 "DriverBook$Field" "handler" "I" ∈ mTb := tm1 (List.mem_of_getElem? (i := 76) (by decide +kernel)) (by decide +kernel)
theorem gI_RX1_55 : mGetI RX1 55 6 9 := ⟨6, RX6, TX6, cls_6, rfl, by decide, by decide, rfl, by decide, kf_RX1_55⟩
theorem pI_RX1_55 : mPutI RX1 55 6 9 .int := ⟨6, RX6, TX6, cls_6, rfl, by decide, by decide, rfl, rfl, by decide, rfl, kf_RX1_55⟩
theorem kf_RX1_58 : Cond.fieldLink "DriverBook$Book" 58 "DriverBook$Field" "register" "I" ∈ mTb := tm1 (List.mem_of_getElem? (i := 49) (by decide +kernel)) (by decide +kernel)
theorem gI_RX1_58 : mGetI RX1 58 6 0 := ⟨6, RX6, TX6, cls_6, rfl, by decide, by decide, rfl, by decide, kf_RX1_58⟩
theorem pI_RX1_58 : mPutI RX1 58 6 0 .int := ⟨6, RX6, TX6, cls_6, rfl, by decide, by decide, rfl, rfl, by decide, rfl, kf_RX1_58⟩
theorem kf_RX1_61 : Cond.fieldLink "DriverBook$Book" 61 "DriverBook$Field" "low" "I" ∈ mTb := tm1 (List.mem_of_getElem? (i := 53) (by decide +kernel)) (by decide +kernel)
theorem gI_RX1_61 : mGetI RX1 61 6 1 := ⟨6, RX6, TX6, cls_6, rfl, by decide, by decide, rfl, by decide, kf_RX1_61⟩
theorem pI_RX1_61 : mPutI RX1 61 6 1 .int := ⟨6, RX6, TX6, cls_6, rfl, by decide, by decide, rfl, rfl, by decide, rfl, kf_RX1_61⟩
theorem kf_RX1_64 : Cond.fieldLink "DriverBook$Book" 64 "DriverBook$Field" "width" "I" ∈ mTb := tm1 (List.mem_of_getElem? (i := 54) (by decide +kernel)) (by decide +kernel)
theorem gI_RX1_64 : mGetI RX1 64 6 2 := ⟨6, RX6, TX6, cls_6, rfl, by decide, by decide, rfl, by decide, kf_RX1_64⟩
theorem pI_RX1_64 : mPutI RX1 64 6 2 .int := ⟨6, RX6, TX6, cls_6, rfl, by decide, by decide, rfl, rfl, by decide, rfl, kf_RX1_64⟩
theorem kf_RX1_67 : Cond.fieldLink "DriverBook$Book" 67 "DriverBook$Field" "kind" "I" ∈ mTb := tm1 (List.mem_of_getElem? (i := 59) (by decide +kernel)) (by decide +kernel)
theorem gI_RX1_67 : mGetI RX1 67 6 3 := ⟨6, RX6, TX6, cls_6, rfl, by decide, by decide, rfl, by decide, kf_RX1_67⟩
theorem pI_RX1_67 : mPutI RX1 67 6 3 .int := ⟨6, RX6, TX6, cls_6, rfl, by decide, by decide, rfl, rfl, by decide, rfl, kf_RX1_67⟩
theorem kf_RX1_70 : Cond.fieldLink "DriverBook$Book" 70 "DriverBook$Field" "reset" "I" ∈ mTb := tm1 (List.mem_of_getElem? (i := 63) (by decide +kernel)) (by decide +kernel)
theorem gI_RX1_70 : mGetI RX1 70 6 4 := ⟨6, RX6, TX6, cls_6, rfl, by decide, by decide, rfl, by decide, kf_RX1_70⟩
theorem pI_RX1_70 : mPutI RX1 70 6 4 .int := ⟨6, RX6, TX6, cls_6, rfl, by decide, by decide, rfl, rfl, by decide, rfl, kf_RX1_70⟩
theorem kf_RX1_73 : Cond.fieldLink "DriverBook$Book" 73 "DriverBook$Field" "ones" "I" ∈ mTb := tm1 (List.mem_of_getElem? (i := 66) (by decide +kernel)) (by decide +kernel)
theorem gI_RX1_73 : mGetI RX1 73 6 5 := ⟨6, RX6, TX6, cls_6, rfl, by decide, by decide, rfl, by decide, kf_RX1_73⟩
theorem pI_RX1_73 : mPutI RX1 73 6 5 .int := ⟨6, RX6, TX6, cls_6, rfl, by decide, by decide, rfl, rfl, by decide, rfl, kf_RX1_73⟩
theorem kf_RX1_76 : Cond.fieldLink "DriverBook$Book" 76 "DriverBook$Field" "mask" "I" ∈ mTb := tm1 (List.mem_of_getElem? (i := 69) (by decide +kernel)) (by decide +kernel)
theorem gI_RX1_76 : mGetI RX1 76 6 6 := ⟨6, RX6, TX6, cls_6, rfl, by decide, by decide, rfl, by decide, kf_RX1_76⟩
theorem pI_RX1_76 : mPutI RX1 76 6 6 .int := ⟨6, RX6, TX6, cls_6, rfl, by decide, by decide, rfl, rfl, by decide, rfl, kf_RX1_76⟩
theorem kf_RX1_79 : Cond.fieldLink "DriverBook$Book" 79 "DriverBook$Field" "period" "I" ∈ mTb := tm1 (List.mem_of_getElem? (i := 70) (by decide +kernel)) (by decide +kernel)
theorem gI_RX1_79 : mGetI RX1 79 6 7 := ⟨6, RX6, TX6, cls_6, rfl, by decide, by decide, rfl, by decide, kf_RX1_79⟩
theorem pI_RX1_79 : mPutI RX1 79 6 7 .int := ⟨6, RX6, TX6, cls_6, rfl, by decide, by decide, rfl, rfl, by decide, rfl, kf_RX1_79⟩
theorem kf_RX1_82 : Cond.fieldLink "DriverBook$Book" 82 "DriverBook$Field" "done" "I" ∈ mTb := tm1 (List.mem_of_getElem? (i := 73) (by decide +kernel)) (by decide +kernel)
theorem gI_RX1_82 : mGetI RX1 82 6 8 := ⟨6, RX6, TX6, cls_6, rfl, by decide, by decide, rfl, by decide, kf_RX1_82⟩
theorem pI_RX1_82 : mPutI RX1 82 6 8 .int := ⟨6, RX6, TX6, cls_6, rfl, by decide, by decide, rfl, rfl, by decide, rfl, kf_RX1_82⟩
theorem kf_RX1_85 : Cond.fieldLink "DriverBook$Book" 85 "DriverBook$Law" "kind" "I" ∈ mTb := tm1 (List.mem_of_getElem? (i := 104) (by decide +kernel)) (by decide +kernel)
theorem gI_RX1_85 : mGetI RX1 85 7 0 := ⟨7, RX7, TX7, cls_7, rfl, by decide, by decide, rfl, by decide, kf_RX1_85⟩
theorem pI_RX1_85 : mPutI RX1 85 7 0 .int := ⟨7, RX7, TX7, cls_7, rfl, by decide, by decide, rfl, rfl, by decide, rfl, kf_RX1_85⟩
theorem kf_RX1_86 : Cond.fieldLink "DriverBook$Book" 86 "DriverBook$Law" "f" "I" ∈ mTb := tm1 (List.mem_of_getElem? (i := 107) (by decide +kernel)) (by decide +kernel)
theorem gI_RX1_86 : mGetI RX1 86 7 1 := ⟨7, RX7, TX7, cls_7, rfl, by decide, by decide, rfl, by decide, kf_RX1_86⟩
theorem pI_RX1_86 : mPutI RX1 86 7 1 .int := ⟨7, RX7, TX7, cls_7, rfl, by decide, by decide, rfl, rfl, by decide, rfl, kf_RX1_86⟩
theorem kf_RX1_89 : Cond.fieldLink "DriverBook$Book" 89 "DriverBook$Law" "g" "I" ∈ mTb := tm1 (List.mem_of_getElem? (i := 110) (by decide +kernel)) (by decide +kernel)
theorem gI_RX1_89 : mGetI RX1 89 7 2 := ⟨7, RX7, TX7, cls_7, rfl, by decide, by decide, rfl, by decide, kf_RX1_89⟩
theorem pI_RX1_89 : mPutI RX1 89 7 2 .int := ⟨7, RX7, TX7, cls_7, rfl, by decide, by decide, rfl, rfl, by decide, rfl, kf_RX1_89⟩
theorem kf_RX1_92 : Cond.fieldLink "DriverBook$Book" 92 "DriverBook$Law" "v" "I" ∈ mTb := tm1 (List.mem_of_getElem? (i := 112) (by decide +kernel)) (by decide +kernel)
theorem gI_RX1_92 : mGetI RX1 92 7 3 := ⟨7, RX7, TX7, cls_7, rfl, by decide, by decide, rfl, by decide, kf_RX1_92⟩
theorem pI_RX1_92 : mPutI RX1 92 7 3 .int := ⟨7, RX7, TX7, cls_7, rfl, by decide, by decide, rfl, rfl, by decide, rfl, kf_RX1_92⟩
theorem kf_RX1_95 : Cond.fieldLink "DriverBook$Book" 95 "DriverBook$Act" "stepCount" "I" ∈ mTb := tm1 (List.mem_of_getElem? (i := 171) (by decide +kernel)) (by decide +kernel)
theorem gI_RX1_95 : mGetI RX1 95 0 5 := ⟨0, RX0, TX0, cls_0, rfl, by decide, by decide, rfl, by decide, kf_RX1_95⟩
theorem pI_RX1_95 : mPutI RX1 95 0 5 .int := ⟨0, RX0, TX0, cls_0, rfl, by decide, by decide, rfl, rfl, by decide, rfl, kf_RX1_95⟩
theorem kf_RX1_110 : Cond.fieldLink "DriverBook$Book" 110 "DriverBook$Act" "code" "LDriverBook$Code;" ∈ mTb := tm1 (List.mem_of_getElem? (i := 167) (by decide +kernel)) (by decide +kernel)
theorem gR_RX1_110 (i : Nat) : mGetR RX1 110 0 4 i (3, i) := ⟨0, RX0, TX0, cls_0, rfl, by decide, by decide, rfl, kf_RX1_110, rfl, fun q => q⟩
theorem kf_RX2_11 : Cond.fieldLink "DriverBook$Chip" 11 "DriverBook$Chip" "fieldsIn" "[[I" ∈ mTb := tm2 (List.mem_of_getElem? (i := 101) (by decide +kernel)) (by decide +kernel)
theorem gR_RX2_11 (i : Nat) : mGetR RX2 11 2 2 i (27, i) := ⟨2, RX2, TX2, cls_2, rfl, by decide, by decide, rfl, kf_RX2_11, rfl, fun q => q⟩
theorem kf_RX2_16 : Cond.fieldLink "DriverBook$Chip" 16 "DriverBook$Chip" "fieldsInCount" "[I" ∈ mTb := tm2 (List.mem_of_getElem? (i := 102) (by decide +kernel)) (by decide +kernel)
theorem gR_RX2_16 (i : Nat) : mGetR RX2 16 2 3 i (29, i) := ⟨2, RX2, TX2, cls_2, rfl, by decide, by decide, rfl, kf_RX2_16, rfl, fun q => q⟩
theorem kf_RX2_20 : Cond.fieldLink "DriverBook$Chip" 20 "DriverBook$Chip" "keptBits" "[I" ∈ mTb := tm2 (List.mem_of_getElem? (i := 103) (by decide +kernel)) (by decide +kernel)
theorem gR_RX2_20 (i : Nat) : mGetR RX2 20 2 4 i (30, i) := ⟨2, RX2, TX2, cls_2, rfl, by decide, by decide, rfl, kf_RX2_20, rfl, fun q => q⟩
theorem kf_RX2_23 : Cond.fieldLink "DriverBook$Chip" 23 "DriverBook$Chip" "pulses" "[I" ∈ mTb := tm2 (List.mem_of_getElem? (i := 105) (by decide +kernel)) (by decide +kernel)
theorem gR_RX2_23 (i : Nat) : mGetR RX2 23 2 5 i (31, i) := ⟨2, RX2, TX2, cls_2, rfl, by decide, by decide, rfl, kf_RX2_23, rfl, fun q => q⟩
theorem kf_RX2_26 : Cond.fieldLink "DriverBook$Chip" 26 "DriverBook$Chip" "pulseCount" "I" ∈ mTb := tm2 (List.mem_of_getElem? (i := 106) (by decide +kernel)) (by decide +kernel)
theorem gI_RX2_26 : mGetI RX2 26 2 6 := ⟨2, RX2, TX2, cls_2, rfl, by decide, by decide, rfl, by decide, kf_RX2_26⟩
theorem pI_RX2_26 : mPutI RX2 26 2 6 .int := ⟨2, RX2, TX2, cls_2, rfl, by decide, by decide, rfl, rfl, by decide, rfl, kf_RX2_26⟩
theorem kf_RX2_30 : Cond.fieldLink "DriverBook$Chip" 30 "DriverBook$Chip" "book" "LDriverBook$Book;" ∈ mTb := tm2 (List.mem_of_getElem? (i := 99) (by decide +kernel)) (by decide +kernel)
theorem gR_RX2_30 (i : Nat) : mGetR RX2 30 2 0 i (1, 0) := ⟨2, RX2, TX2, cls_2, rfl, by decide, by decide, rfl, kf_RX2_30, rfl, fun _ => by decide⟩
theorem kf_RX2_34 : Cond.fieldLink "DriverBook$Chip" 34 "DriverBook$Chip" "state" "LDriverBook$State;" ∈ mTb := tm2 (List.mem_of_getElem? (i := 100) (by decide +kernel)) (by decide +kernel)
theorem gR_RX2_34 (i : Nat) : mGetR RX2 34 2 1 i (8, 0) := ⟨2, RX2, TX2, cls_2, rfl, by decide, by decide, rfl, kf_RX2_34, rfl, fun _ => by decide⟩
theorem kf_RX2_49 : Cond.fieldLink "DriverBook$Chip" 49 "DriverBook$Book" "fieldCount" "I" ∈ mTb := tm1 (List.mem_of_getElem? (i := 200) (by decide +kernel)) (by decide +kernel)
theorem gI_RX2_49 : mGetI RX2 49 1 4 := ⟨1, RX1, TX1, cls_1, rfl, by decide, by decide, rfl, by decide, kf_RX2_49⟩
theorem kf_RX2_54 : Cond.fieldLink "DriverBook$Chip" 54 "DriverBook$Book" "fields" "[LDriverBook$Field;" ∈ mTb := tm1 (List.mem_of_getElem? (i := 186) (by decide +kernel)) (by decide +kernel)
theorem gR_RX2_54 (i : Nat) : mGetR RX2 54 1 0 i (24, i) := ⟨1, RX1, TX1, cls_1, rfl, by decide, by decide, rfl, kf_RX2_54, rfl, fun q => q⟩
theorem kf_RX2_62 : Cond.fieldLink "DriverBook$Chip" 62 "DriverBook$State" "value" "[I" ∈ mTb := tm2 (List.mem_of_getElem? (i := 7) (by decide +kernel)) (by decide +kernel)
theorem gR_RX2_62 (i : Nat) : mGetR RX2 62 8 0 i (33, i) := ⟨8, RX8, TX8, cls_8, rfl, by decide, by decide, rfl, kf_RX2_62, rfl, fun q => q⟩
theorem kf_RX2_65 : Cond.fieldLink "DriverBook$Chip" 65 "DriverBook$Field" "reset" "I" ∈ mTb := tm1 (List.mem_of_getElem? (i := 62) (by decide +kernel)) (by decide +kernel)
theorem gI_RX2_65 : mGetI RX2 65 6 4 := ⟨6, RX6, TX6, cls_6, rfl, by decide, by decide, rfl, by decide, kf_RX2_65⟩
theorem kf_RX2_70 : Cond.fieldLink "DriverBook$Chip" 70 "DriverBook$State" "pending" "[I" ∈ mTb := tm2 (List.mem_of_getElem? (i := 12) (by decide +kernel)) (by decide +kernel)
theorem gR_RX2_70 (i : Nat) : mGetR RX2 70 8 1 i (34, i) := ⟨8, RX8, TX8, cls_8, rfl, by decide, by decide, rfl, kf_RX2_70, rfl, fun q => q⟩
theorem kf_RX2_77 : Cond.fieldLink "DriverBook$Chip" 77 "DriverBook$State" "shadow" "[I" ∈ mTb := tm2 (List.mem_of_getElem? (i := 25) (by decide +kernel)) (by decide +kernel)
theorem gR_RX2_77 (i : Nat) : mGetR RX2 77 8 5 i (38, i) := ⟨8, RX8, TX8, cls_8, rfl, by decide, by decide, rfl, kf_RX2_77, rfl, fun q => q⟩
theorem kf_RX2_80 : Cond.fieldLink "DriverBook$Chip" 80 "DriverBook$Field" "register" "I" ∈ mTb := tm1 (List.mem_of_getElem? (i := 47) (by decide +kernel)) (by decide +kernel)
theorem gI_RX2_80 : mGetI RX2 80 6 0 := ⟨6, RX6, TX6, cls_6, rfl, by decide, by decide, rfl, by decide, kf_RX2_80⟩
theorem kf_RX2_83 : Cond.fieldLink "DriverBook$Chip" 83 "DriverBook$Field" "low" "I" ∈ mTb := tm1 (List.mem_of_getElem? (i := 51) (by decide +kernel)) (by decide +kernel)
theorem gI_RX2_83 : mGetI RX2 83 6 1 := ⟨6, RX6, TX6, cls_6, rfl, by decide, by decide, rfl, by decide, kf_RX2_83⟩
theorem kf_RX2_86 : Cond.fieldLink "DriverBook$Chip" 86 "DriverBook$Field" "mask" "I" ∈ mTb := tm1 (List.mem_of_getElem? (i := 67) (by decide +kernel)) (by decide +kernel)
theorem gI_RX2_86 : mGetI RX2 86 6 6 := ⟨6, RX6, TX6, cls_6, rfl, by decide, by decide, rfl, by decide, kf_RX2_86⟩
theorem kf_RX2_89 : Cond.fieldLink "DriverBook$Chip" 89 "DriverBook$Field" "kind" "I" ∈ mTb := tm1 (List.mem_of_getElem? (i := 57) (by decide +kernel)) (by decide +kernel)
theorem gI_RX2_89 : mGetI RX2 89 6 3 := ⟨6, RX6, TX6, cls_6, rfl, by decide, by decide, rfl, by decide, kf_RX2_89⟩
theorem kf_RX2_92 : Cond.fieldLink "DriverBook$Chip" 92 "DriverBook$State" "now" "J" ∈ mTb := tm2 (List.mem_of_getElem? (i := 39) (by decide +kernel)) (by decide +kernel)
theorem gJ_RX2_92 : mGetJ RX2 92 8 10 := ⟨8, RX8, TX8, cls_8, rfl, by decide, by decide, rfl, kf_RX2_92⟩
theorem pJ_RX2_92 : mPutJ RX2 92 8 10 := ⟨8, RX8, TX8, cls_8, rfl, by decide, by decide, rfl, rfl, kf_RX2_92⟩
theorem kf_RX2_96 : Cond.fieldLink "DriverBook$Chip" 96 "DriverBook$State" "timer" "[I" ∈ mTb := tm2 (List.mem_of_getElem? (i := 16) (by decide +kernel)) (by decide +kernel)
theorem gR_RX2_96 (i : Nat) : mGetR RX2 96 8 2 i (35, i) := ⟨8, RX8, TX8, cls_8, rfl, by decide, by decide, rfl, kf_RX2_96, rfl, fun q => q⟩
theorem kf_RX2_103 : Cond.fieldLink "DriverBook$Chip" 103 "DriverBook$State" "eventCount" "I" ∈ mTb := tm2 (List.mem_of_getElem? (i := 35) (by decide +kernel)) (by decide +kernel)
theorem gI_RX2_103 : mGetI RX2 103 8 9 := ⟨8, RX8, TX8, cls_8, rfl, by decide, by decide, rfl, by decide, kf_RX2_103⟩
theorem pI_RX2_103 : mPutI RX2 103 8 9 .int := ⟨8, RX8, TX8, cls_8, rfl, by decide, by decide, rfl, rfl, by decide, rfl, kf_RX2_103⟩
theorem kf_RX2_109 : Cond.fieldLink "DriverBook$Chip" 109 "DriverBook$Field" "done" "I" ∈ mTb := tm1 (List.mem_of_getElem? (i := 72) (by decide +kernel)) (by decide +kernel)
theorem gI_RX2_109 : mGetI RX2 109 6 8 := ⟨6, RX6, TX6, cls_6, rfl, by decide, by decide, rfl, by decide, kf_RX2_109⟩
theorem kf_RX2_112 : Cond.fieldLink "DriverBook$Chip" 112 "DriverBook$Field" "ones" "I" ∈ mTb := tm1 (List.mem_of_getElem? (i := 65) (by decide +kernel)) (by decide +kernel)
theorem gI_RX2_112 : mGetI RX2 112 6 5 := ⟨6, RX6, TX6, cls_6, rfl, by decide, by decide, rfl, by decide, kf_RX2_112⟩
theorem kf_RX2_115 : Cond.fieldLink "DriverBook$Chip" 115 "DriverBook$State" "eventField" "[I" ∈ mTb := tm2 (List.mem_of_getElem? (i := 29) (by decide +kernel)) (by decide +kernel)
theorem gR_RX2_115 (i : Nat) : mGetR RX2 115 8 6 i (39, i) := ⟨8, RX8, TX8, cls_8, rfl, by decide, by decide, rfl, kf_RX2_115, rfl, fun q => q⟩
theorem kf_RX2_118 : Cond.fieldLink "DriverBook$Chip" 118 "DriverBook$State" "eventTick" "[J" ∈ mTb := tm2 (List.mem_of_getElem? (i := 33) (by decide +kernel)) (by decide +kernel)
theorem gR_RX2_118 (i : Nat) : mGetR RX2 118 8 8 i (41, i) := ⟨8, RX8, TX8, cls_8, rfl, by decide, by decide, rfl, kf_RX2_118, rfl, fun q => q⟩
theorem kf_RX2_122 : Cond.fieldLink "DriverBook$Chip" 122 "DriverBook$State" "eventValue" "[I" ∈ mTb := tm2 (List.mem_of_getElem? (i := 31) (by decide +kernel)) (by decide +kernel)
theorem gR_RX2_122 (i : Nat) : mGetR RX2 122 8 7 i (40, i) := ⟨8, RX8, TX8, cls_8, rfl, by decide, by decide, rfl, kf_RX2_122, rfl, fun q => q⟩
theorem kf_RX2_125 : Cond.fieldLink "DriverBook$Chip" 125 "DriverBook$State" "soft" "[I" ∈ mTb := tm2 (List.mem_of_getElem? (i := 19) (by decide +kernel)) (by decide +kernel)
theorem gR_RX2_125 (i : Nat) : mGetR RX2 125 8 3 i (36, i) := ⟨8, RX8, TX8, cls_8, rfl, by decide, by decide, rfl, kf_RX2_125, rfl, fun q => q⟩
theorem kf_RX2_142 : Cond.fieldLink "DriverBook$Chip" 142 "DriverBook$State" "lastHit" "[J" ∈ mTb := tm2 (List.mem_of_getElem? (i := 23) (by decide +kernel)) (by decide +kernel)
theorem gR_RX2_142 (i : Nat) : mGetR RX2 142 8 4 i (37, i) := ⟨8, RX8, TX8, cls_8, rfl, by decide, by decide, rfl, kf_RX2_142, rfl, fun q => q⟩
theorem kf_RX2_156 : Cond.fieldLink "DriverBook$Chip" 156 "DriverBook$Book" "lawCount" "I" ∈ mTb := tm1 (List.mem_of_getElem? (i := 206) (by decide +kernel)) (by decide +kernel)
theorem gI_RX2_156 : mGetI RX2 156 1 5 := ⟨1, RX1, TX1, cls_1, rfl, by decide, by decide, rfl, by decide, kf_RX2_156⟩
theorem kf_RX2_159 : Cond.fieldLink "DriverBook$Chip" 159 "DriverBook$Book" "laws" "[LDriverBook$Law;" ∈ mTb := tm1 (List.mem_of_getElem? (i := 192) (by decide +kernel)) (by decide +kernel)
theorem gR_RX2_159 (i : Nat) : mGetR RX2 159 1 1 i (25, i) := ⟨1, RX1, TX1, cls_1, rfl, by decide, by decide, rfl, kf_RX2_159, rfl, fun q => q⟩
theorem kf_RX2_163 : Cond.fieldLink "DriverBook$Chip" 163 "DriverBook$Law" "f" "I" ∈ mTb := tm1 (List.mem_of_getElem? (i := 108) (by decide +kernel)) (by decide +kernel)
theorem gI_RX2_163 : mGetI RX2 163 7 1 := ⟨7, RX7, TX7, cls_7, rfl, by decide, by decide, rfl, by decide, kf_RX2_163⟩
theorem kf_RX2_175 : Cond.fieldLink "DriverBook$Chip" 175 "DriverBook$Law" "kind" "I" ∈ mTb := tm1 (List.mem_of_getElem? (i := 105) (by decide +kernel)) (by decide +kernel)
theorem gI_RX2_175 : mGetI RX2 175 7 0 := ⟨7, RX7, TX7, cls_7, rfl, by decide, by decide, rfl, by decide, kf_RX2_175⟩
theorem kf_RX2_176 : Cond.fieldLink "DriverBook$Chip" 176 "DriverBook$Law" "g" "I" ∈ mTb := tm1 (List.mem_of_getElem? (i := 111) (by decide +kernel)) (by decide +kernel)
theorem gI_RX2_176 : mGetI RX2 176 7 2 := ⟨7, RX7, TX7, cls_7, rfl, by decide, by decide, rfl, by decide, kf_RX2_176⟩
theorem kf_RX2_179 : Cond.fieldLink "DriverBook$Chip" 179 "DriverBook$Law" "v" "I" ∈ mTb := tm1 (List.mem_of_getElem? (i := 113) (by decide +kernel)) (by decide +kernel)
theorem gI_RX2_179 : mGetI RX2 179 7 3 := ⟨7, RX7, TX7, cls_7, rfl, by decide, by decide, rfl, by decide, kf_RX2_179⟩
theorem kf_RX2_184 : Cond.fieldLink "DriverBook$Chip" 184 "DriverBook$Field" "period" "I" ∈ mTb := tm1 (List.mem_of_getElem? (i := 71) (by decide +kernel)) (by decide +kernel)
theorem gI_RX2_184 : mGetI RX2 184 6 7 := ⟨6, RX6, TX6, cls_6, rfl, by decide, by decide, rfl, by decide, kf_RX2_184⟩
theorem kf_RX3_11 : Cond.fieldLink "DriverBook$Code" 11 "DriverBook$Code" "parts" "[I" ∈ mTb := tm1 (List.mem_of_getElem? (i := 134) (by decide +kernel)) (by decide +kernel)
theorem gR_RX3_11 (i : Nat) : mGetR RX3 11 3 0 i (32, i) := ⟨3, RX3, TX3, cls_3, rfl, by decide, by decide, rfl, kf_RX3_11, rfl, fun q => q⟩
theorem kf_RX3_15 : Cond.fieldLink "DriverBook$Code" 15 "DriverBook$Code" "size" "I" ∈ mTb := tm1 (List.mem_of_getElem? (i := 135) (by decide +kernel)) (by decide +kernel)
theorem gI_RX3_15 : mGetI RX3 15 3 1 := ⟨3, RX3, TX3, cls_3, rfl, by decide, by decide, rfl, by decide, kf_RX3_15⟩
theorem pI_RX3_15 : mPutI RX3 15 3 1 .int := ⟨3, RX3, TX3, cls_3, rfl, by decide, by decide, rfl, rfl, by decide, rfl, kf_RX3_15⟩
theorem kf_RX3_19 : Cond.fieldLink "DriverBook$Code" 19 "DriverBook$Code" "groupSet" "I" ∈ mTb := tm1 (List.mem_of_getElem? (i := 138) (by decide +kernel)) (by decide +kernel)
theorem gI_RX3_19 : mGetI RX3 19 3 2 := ⟨3, RX3, TX3, cls_3, rfl, by decide, by decide, rfl, by decide, kf_RX3_19⟩
theorem pI_RX3_19 : mPutI RX3 19 3 2 .int := ⟨3, RX3, TX3, cls_3, rfl, by decide, by decide, rfl, rfl, by decide, rfl, kf_RX3_19⟩
theorem kf_RX3_22 : Cond.fieldLink "DriverBook$Code" 22 "DriverBook$Code" "groupRegister" "I" ∈ mTb := tm1 (List.mem_of_getElem? (i := 139) (by decide +kernel)) (by decide +kernel)
theorem gI_RX3_22 : mGetI RX3 22 3 3 := ⟨3, RX3, TX3, cls_3, rfl, by decide, by decide, rfl, by decide, kf_RX3_22⟩
theorem pI_RX3_22 : mPutI RX3 22 3 3 .int := ⟨3, RX3, TX3, cls_3, rfl, by decide, by decide, rfl, rfl, by decide, rfl, kf_RX3_22⟩
theorem kf_RX3_25 : Cond.fieldLink "DriverBook$Code" 25 "DriverBook$Code" "groupMask" "I" ∈ mTb := tm1 (List.mem_of_getElem? (i := 140) (by decide +kernel)) (by decide +kernel)
theorem gI_RX3_25 : mGetI RX3 25 3 4 := ⟨3, RX3, TX3, cls_3, rfl, by decide, by decide, rfl, by decide, kf_RX3_25⟩
theorem pI_RX3_25 : mPutI RX3 25 3 4 .int := ⟨3, RX3, TX3, cls_3, rfl, by decide, by decide, rfl, rfl, by decide, rfl, kf_RX3_25⟩
theorem kf_RX3_28 : Cond.fieldLink "DriverBook$Code" 28 "DriverBook$Code" "groupBits" "I" ∈ mTb := tm1 (List.mem_of_getElem? (i := 141) (by decide +kernel)) (by decide +kernel)
theorem gI_RX3_28 : mGetI RX3 28 3 5 := ⟨3, RX3, TX3, cls_3, rfl, by decide, by decide, rfl, by decide, kf_RX3_28⟩
theorem pI_RX3_28 : mPutI RX3 28 3 5 .int := ⟨3, RX3, TX3, cls_3, rfl, by decide, by decide, rfl, rfl, by decide, rfl, kf_RX3_28⟩
theorem kf_RX3_31 : Cond.fieldLink "DriverBook$Code" 31 "DriverBook$Act" "stepCount" "I" ∈ mTb := tm1 (List.mem_of_getElem? (i := 169) (by decide +kernel)) (by decide +kernel)
theorem gI_RX3_31 : mGetI RX3 31 0 5 := ⟨0, RX0, TX0, cls_0, rfl, by decide, by decide, rfl, by decide, kf_RX3_31⟩
theorem kf_RX3_36 : Cond.fieldLink "DriverBook$Code" 36 "DriverBook$Act" "kinds" "[I" ∈ mTb := tm1 (List.mem_of_getElem? (i := 157) (by decide +kernel)) (by decide +kernel)
theorem gR_RX3_36 (i : Nat) : mGetR RX3 36 0 0 i (20, i) := ⟨0, RX0, TX0, cls_0, rfl, by decide, by decide, rfl, kf_RX3_36, rfl, fun q => q⟩
theorem kf_RX3_39 : Cond.fieldLink "DriverBook$Code" 39 "DriverBook$Act" "stepFields" "[I" ∈ mTb := tm1 (List.mem_of_getElem? (i := 159) (by decide +kernel)) (by decide +kernel)
theorem gR_RX3_39 (i : Nat) : mGetR RX3 39 0 1 i (21, i) := ⟨0, RX0, TX0, cls_0, rfl, by decide, by decide, rfl, kf_RX3_39, rfl, fun q => q⟩
theorem kf_RX3_50 : Cond.fieldLink "DriverBook$Code" 50 "DriverBook$Act" "numbers" "[I" ∈ mTb := tm1 (List.mem_of_getElem? (i := 161) (by decide +kernel)) (by decide +kernel)
theorem gR_RX3_50 (i : Nat) : mGetR RX3 50 0 2 i (22, i) := ⟨0, RX0, TX0, cls_0, rfl, by decide, by decide, rfl, kf_RX3_50, rfl, fun q => q⟩
theorem kf_RX3_61 : Cond.fieldLink "DriverBook$Code" 61 "DriverBook$Book" "fields" "[LDriverBook$Field;" ∈ mTb := tm1 (List.mem_of_getElem? (i := 189) (by decide +kernel)) (by decide +kernel)
theorem gR_RX3_61 (i : Nat) : mGetR RX3 61 1 0 i (24, i) := ⟨1, RX1, TX1, cls_1, rfl, by decide, by decide, rfl, kf_RX3_61, rfl, fun q => q⟩
theorem kf_RX3_67 : Cond.fieldLink "DriverBook$Code" 67 "DriverBook$Field" "register" "I" ∈ mTb := tm1 (List.mem_of_getElem? (i := 48) (by decide +kernel)) (by decide +kernel)
theorem gI_RX3_67 : mGetI RX3 67 6 0 := ⟨6, RX6, TX6, cls_6, rfl, by decide, by decide, rfl, by decide, kf_RX3_67⟩
theorem kf_RX3_79 : Cond.fieldLink "DriverBook$Code" 79 "DriverBook$Field" "mask" "I" ∈ mTb := tm1 (List.mem_of_getElem? (i := 68) (by decide +kernel)) (by decide +kernel)
theorem gI_RX3_79 : mGetI RX3 79 6 6 := ⟨6, RX6, TX6, cls_6, rfl, by decide, by decide, rfl, by decide, kf_RX3_79⟩
theorem kf_RX3_82 : Cond.fieldLink "DriverBook$Code" 82 "DriverBook$Field" "low" "I" ∈ mTb := tm1 (List.mem_of_getElem? (i := 52) (by decide +kernel)) (by decide +kernel)
theorem gI_RX3_82 : mGetI RX3 82 6 1 := ⟨6, RX6, TX6, cls_6, rfl, by decide, by decide, rfl, by decide, kf_RX3_82⟩
theorem kf_RX3_97 : Cond.fieldLink "DriverBook$Code" 97 "DriverBook$Book" "locks" "I" ∈ mTb := tm1 (List.mem_of_getElem? (i := 210) (by decide +kernel)) (by decide +kernel)
theorem gI_RX3_97 : mGetI RX3 97 1 7 := ⟨1, RX1, TX1, cls_1, rfl, by decide, by decide, rfl, by decide, kf_RX3_97⟩
theorem kf_RX3_111 : Cond.fieldLink "DriverBook$Code" 111 "DriverBook$Act" "limits" "[I" ∈ mTb := tm1 (List.mem_of_getElem? (i := 163) (by decide +kernel)) (by decide +kernel)
theorem gR_RX3_111 (i : Nat) : mGetR RX3 111 0 3 i (23, i) := ⟨0, RX0, TX0, cls_0, rfl, by decide, by decide, rfl, kf_RX3_111, rfl, fun q => q⟩
theorem kf_RX4_7 : Cond.fieldLink "DriverBook$Course" 7 "DriverBook$Course" "at" "I" ∈ mTb := tm2 (List.mem_of_getElem? (i := 134) (by decide +kernel)) (by decide +kernel)
theorem gI_RX4_7 : mGetI RX4 7 4 0 := ⟨4, RX4, TX4, cls_4, rfl, by decide, by decide, rfl, by decide, kf_RX4_7⟩
theorem pI_RX4_7 : mPutI RX4 7 4 0 .int := ⟨4, RX4, TX4, cls_4, rfl, by decide, by decide, rfl, rfl, by decide, rfl, kf_RX4_7⟩
theorem kf_RX4_13 : Cond.fieldLink "DriverBook$Course" 13 "DriverBook$Course" "beats" "I" ∈ mTb := tm2 (List.mem_of_getElem? (i := 136) (by decide +kernel)) (by decide +kernel)
theorem gI_RX4_13 : mGetI RX4 13 4 1 := ⟨4, RX4, TX4, cls_4, rfl, by decide, by decide, rfl, by decide, kf_RX4_13⟩
theorem pI_RX4_13 : mPutI RX4 13 4 1 .int := ⟨4, RX4, TX4, cls_4, rfl, by decide, by decide, rfl, rfl, by decide, rfl, kf_RX4_13⟩
theorem kf_RX4_16 : Cond.fieldLink "DriverBook$Course" 16 "DriverBook$Course" "acc" "I" ∈ mTb := tm2 (List.mem_of_getElem? (i := 138) (by decide +kernel)) (by decide +kernel)
theorem gI_RX4_16 : mGetI RX4 16 4 2 := ⟨4, RX4, TX4, cls_4, rfl, by decide, by decide, rfl, by decide, kf_RX4_16⟩
theorem pI_RX4_16 : mPutI RX4 16 4 2 .int := ⟨4, RX4, TX4, cls_4, rfl, by decide, by decide, rfl, rfl, by decide, rfl, kf_RX4_16⟩
theorem kf_RX4_19 : Cond.fieldLink "DriverBook$Course" 19 "DriverBook$Course" "timedOut" "Z" ∈ mTb := tm2 (List.mem_of_getElem? (i := 140) (by decide +kernel)) (by decide +kernel)
theorem gI_RX4_19 : mGetI RX4 19 4 3 := ⟨4, RX4, TX4, cls_4, rfl, by decide, by decide, rfl, by decide, kf_RX4_19⟩
theorem pI_RX4_19 : mPutI RX4 19 4 3 .boolean := ⟨4, RX4, TX4, cls_4, rfl, by decide, by decide, rfl, rfl, by decide, rfl, kf_RX4_19⟩
theorem kf_RX4_23 : Cond.fieldLink "DriverBook$Course" 23 "DriverBook$Code" "size" "I" ∈ mTb := tm1 (List.mem_of_getElem? (i := 136) (by decide +kernel)) (by decide +kernel)
theorem gI_RX4_23 : mGetI RX4 23 3 1 := ⟨3, RX3, TX3, cls_3, rfl, by decide, by decide, rfl, by decide, kf_RX4_23⟩
theorem kf_RX5_14 : Cond.fieldLink "DriverBook$Driver" 14 "DriverBook$Driver" "actCourse" "LDriverBook$Course;" ∈ mTb := tm2 (List.mem_of_getElem? (i := 154) (by decide +kernel)) (by decide +kernel)
theorem gR_RX5_14 (i : Nat) : mGetR RX5 14 5 3 i (4, 0) := ⟨5, RX5, TX5, cls_5, rfl, by decide, by decide, rfl, kf_RX5_14, rfl, fun _ => by decide⟩
theorem kf_RX5_20 : Cond.fieldLink "DriverBook$Driver" 20 "DriverBook$Driver" "handlerCourse" "LDriverBook$Course;" ∈ mTb := tm2 (List.mem_of_getElem? (i := 155) (by decide +kernel)) (by decide +kernel)
theorem gR_RX5_20 (i : Nat) : mGetR RX5 20 5 4 i (4, 1) := ⟨5, RX5, TX5, cls_5, rfl, by decide, by decide, rfl, kf_RX5_20, rfl, fun _ => by decide⟩
theorem kf_RX5_23 : Cond.fieldLink "DriverBook$Driver" 23 "DriverBook$Driver" "locked" "Z" ∈ mTb := tm2 (List.mem_of_getElem? (i := 156) (by decide +kernel)) (by decide +kernel)
theorem gI_RX5_23 : mGetI RX5 23 5 5 := ⟨5, RX5, TX5, cls_5, rfl, by decide, by decide, rfl, by decide, kf_RX5_23⟩
theorem pI_RX5_23 : mPutI RX5 23 5 5 .boolean := ⟨5, RX5, TX5, cls_5, rfl, by decide, by decide, rfl, rfl, by decide, rfl, kf_RX5_23⟩
theorem kf_RX5_27 : Cond.fieldLink "DriverBook$Driver" 27 "DriverBook$Driver" "book" "LDriverBook$Book;" ∈ mTb := tm2 (List.mem_of_getElem? (i := 151) (by decide +kernel)) (by decide +kernel)
theorem gR_RX5_27 (i : Nat) : mGetR RX5 27 5 0 i (1, 0) := ⟨5, RX5, TX5, cls_5, rfl, by decide, by decide, rfl, kf_RX5_27, rfl, fun _ => by decide⟩
theorem kf_RX5_31 : Cond.fieldLink "DriverBook$Driver" 31 "DriverBook$Driver" "state" "LDriverBook$State;" ∈ mTb := tm2 (List.mem_of_getElem? (i := 152) (by decide +kernel)) (by decide +kernel)
theorem gR_RX5_31 (i : Nat) : mGetR RX5 31 5 1 i (8, 0) := ⟨5, RX5, TX5, cls_5, rfl, by decide, by decide, rfl, kf_RX5_31, rfl, fun _ => by decide⟩
theorem kf_RX5_35 : Cond.fieldLink "DriverBook$Driver" 35 "DriverBook$Driver" "chip" "LDriverBook$Chip;" ∈ mTb := tm2 (List.mem_of_getElem? (i := 153) (by decide +kernel)) (by decide +kernel)
theorem gR_RX5_35 (i : Nat) : mGetR RX5 35 5 2 i (2, 0) := ⟨5, RX5, TX5, cls_5, rfl, by decide, by decide, rfl, kf_RX5_35, rfl, fun _ => by decide⟩
theorem kf_RX5_39 : Cond.fieldLink "DriverBook$Driver" 39 "DriverBook$Book" "acts" "[LDriverBook$Act;" ∈ mTb := tm1 (List.mem_of_getElem? (i := 194) (by decide +kernel)) (by decide +kernel)
theorem gR_RX5_39 (i : Nat) : mGetR RX5 39 1 2 i (26, i) := ⟨1, RX1, TX1, cls_1, rfl, by decide, by decide, rfl, kf_RX5_39, rfl, fun q => q⟩
theorem kf_RX5_45 : Cond.fieldLink "DriverBook$Driver" 45 "DriverBook$Act" "code" "LDriverBook$Code;" ∈ mTb := tm1 (List.mem_of_getElem? (i := 165) (by decide +kernel)) (by decide +kernel)
theorem gR_RX5_45 (i : Nat) : mGetR RX5 45 0 4 i (3, i) := ⟨0, RX0, TX0, cls_0, rfl, by decide, by decide, rfl, kf_RX5_45, rfl, fun q => q⟩
theorem kf_RX5_65 : Cond.fieldLink "DriverBook$Driver" 65 "DriverBook$Course" "timedOut" "Z" ∈ mTb := tm2 (List.mem_of_getElem? (i := 141) (by decide +kernel)) (by decide +kernel)
theorem gI_RX5_65 : mGetI RX5 65 4 3 := ⟨4, RX4, TX4, cls_4, rfl, by decide, by decide, rfl, by decide, kf_RX5_65⟩
theorem pI_RX5_65 : mPutI RX5 65 4 3 .boolean := ⟨4, RX4, TX4, cls_4, rfl, by decide, by decide, rfl, rfl, by decide, rfl, kf_RX5_65⟩
theorem kf_RX5_76 : Cond.fieldLink "DriverBook$Driver" 76 "DriverBook$State" "result" "I" ∈ mTb := tm2 (List.mem_of_getElem? (i := 43) (by decide +kernel)) (by decide +kernel)
theorem gI_RX5_76 : mGetI RX5 76 8 11 := ⟨8, RX8, TX8, cls_8, rfl, by decide, by decide, rfl, by decide, kf_RX5_76⟩
theorem pI_RX5_76 : mPutI RX5 76 8 11 .int := ⟨8, RX8, TX8, cls_8, rfl, by decide, by decide, rfl, rfl, by decide, rfl, kf_RX5_76⟩
theorem kf_RX5_82 : Cond.fieldLink "DriverBook$Driver" 82 "DriverBook$State" "served" "I" ∈ mTb := tm2 (List.mem_of_getElem? (i := 46) (by decide +kernel)) (by decide +kernel)
theorem gI_RX5_82 : mGetI RX5 82 8 12 := ⟨8, RX8, TX8, cls_8, rfl, by decide, by decide, rfl, by decide, kf_RX5_82⟩
theorem pI_RX5_82 : mPutI RX5 82 8 12 .int := ⟨8, RX8, TX8, cls_8, rfl, by decide, by decide, rfl, rfl, by decide, rfl, kf_RX5_82⟩
theorem kf_RX5_85 : Cond.fieldLink "DriverBook$Driver" 85 "DriverBook$Book" "fieldCount" "I" ∈ mTb := tm1 (List.mem_of_getElem? (i := 202) (by decide +kernel)) (by decide +kernel)
theorem gI_RX5_85 : mGetI RX5 85 1 4 := ⟨1, RX1, TX1, cls_1, rfl, by decide, by decide, rfl, by decide, kf_RX5_85⟩
theorem kf_RX5_88 : Cond.fieldLink "DriverBook$Driver" 88 "DriverBook$Book" "fields" "[LDriverBook$Field;" ∈ mTb := tm1 (List.mem_of_getElem? (i := 187) (by decide +kernel)) (by decide +kernel)
theorem gR_RX5_88 (i : Nat) : mGetR RX5 88 1 0 i (24, i) := ⟨1, RX1, TX1, cls_1, rfl, by decide, by decide, rfl, kf_RX5_88, rfl, fun q => q⟩
theorem kf_RX5_92 : Cond.fieldLink "DriverBook$Driver" 92 "DriverBook$Field" "handler" "I" ∈ mTb := tm1 (List.mem_of_getElem? (i := 74) (by decide +kernel)) (by decide +kernel)
theorem gI_RX5_92 : mGetI RX5 92 6 9 := ⟨6, RX6, TX6, cls_6, rfl, by decide, by decide, rfl, by decide, kf_RX5_92⟩
theorem kf_RX5_97 : Cond.fieldLink "DriverBook$Driver" 97 "DriverBook$State" "value" "[I" ∈ mTb := tm2 (List.mem_of_getElem? (i := 8) (by decide +kernel)) (by decide +kernel)
theorem gR_RX5_97 (i : Nat) : mGetR RX5 97 8 0 i (33, i) := ⟨8, RX8, TX8, cls_8, rfl, by decide, by decide, rfl, kf_RX5_97, rfl, fun q => q⟩
theorem kf_RX5_101 : Cond.fieldLink "DriverBook$Driver" 101 "DriverBook$Course" "at" "I" ∈ mTb := tm2 (List.mem_of_getElem? (i := 135) (by decide +kernel)) (by decide +kernel)
theorem gI_RX5_101 : mGetI RX5 101 4 0 := ⟨4, RX4, TX4, cls_4, rfl, by decide, by decide, rfl, by decide, kf_RX5_101⟩
theorem kf_RX5_114 : Cond.fieldLink "DriverBook$Driver" 114 "DriverBook$Course" "acc" "I" ∈ mTb := tm2 (List.mem_of_getElem? (i := 139) (by decide +kernel)) (by decide +kernel)
theorem gI_RX5_114 : mGetI RX5 114 4 2 := ⟨4, RX4, TX4, cls_4, rfl, by decide, by decide, rfl, by decide, kf_RX5_114⟩
theorem pI_RX5_114 : mPutI RX5 114 4 2 .int := ⟨4, RX4, TX4, cls_4, rfl, by decide, by decide, rfl, rfl, by decide, rfl, kf_RX5_114⟩
theorem kf_RX5_124 : Cond.fieldLink "DriverBook$Driver" 124 "DriverBook$State" "shadow" "[I" ∈ mTb := tm2 (List.mem_of_getElem? (i := 26) (by decide +kernel)) (by decide +kernel)
theorem gR_RX5_124 (i : Nat) : mGetR RX5 124 8 5 i (38, i) := ⟨8, RX8, TX8, cls_8, rfl, by decide, by decide, rfl, kf_RX5_124, rfl, fun q => q⟩
theorem kf_RX5_127 : Cond.fieldLink "DriverBook$Driver" 127 "DriverBook$Chip" "keptBits" "[I" ∈ mTb := tm2 (List.mem_of_getElem? (i := 104) (by decide +kernel)) (by decide +kernel)
theorem gR_RX5_127 (i : Nat) : mGetR RX5 127 2 4 i (30, i) := ⟨2, RX2, TX2, cls_2, rfl, by decide, by decide, rfl, kf_RX5_127, rfl, fun q => q⟩
theorem kf_RX5_140 : Cond.fieldLink "DriverBook$Driver" 140 "DriverBook$Course" "beats" "I" ∈ mTb := tm2 (List.mem_of_getElem? (i := 137) (by decide +kernel)) (by decide +kernel)
theorem gI_RX5_140 : mGetI RX5 140 4 1 := ⟨4, RX4, TX4, cls_4, rfl, by decide, by decide, rfl, by decide, kf_RX5_140⟩
theorem pI_RX5_140 : mPutI RX5 140 4 1 .int := ⟨4, RX4, TX4, cls_4, rfl, by decide, by decide, rfl, rfl, by decide, rfl, kf_RX5_140⟩
theorem kf_RX5_146 : Cond.fieldLink "DriverBook$Driver" 146 "DriverBook$Field" "kind" "I" ∈ mTb := tm1 (List.mem_of_getElem? (i := 60) (by decide +kernel)) (by decide +kernel)
theorem gI_RX5_146 : mGetI RX5 146 6 3 := ⟨6, RX6, TX6, cls_6, rfl, by decide, by decide, rfl, by decide, kf_RX5_146⟩
theorem kf_RX5_149 : Cond.fieldLink "DriverBook$Driver" 149 "DriverBook$State" "soft" "[I" ∈ mTb := tm2 (List.mem_of_getElem? (i := 20) (by decide +kernel)) (by decide +kernel)
theorem gR_RX5_149 (i : Nat) : mGetR RX5 149 8 3 i (36, i) := ⟨8, RX8, TX8, cls_8, rfl, by decide, by decide, rfl, kf_RX5_149, rfl, fun q => q⟩
theorem kf_RX6_7 : Cond.fieldLink "DriverBook$Field" 7 "DriverBook$Field" "low" "I" ∈ mTb := tm1 (List.mem_of_getElem? (i := 50) (by decide +kernel)) (by decide +kernel)
theorem gI_RX6_7 : mGetI RX6 7 6 1 := ⟨6, RX6, TX6, cls_6, rfl, by decide, by decide, rfl, by decide, kf_RX6_7⟩
theorem kf_RX6_13 : Cond.fieldLink "DriverBook$Field" 13 "DriverBook$Field" "ones" "I" ∈ mTb := tm1 (List.mem_of_getElem? (i := 64) (by decide +kernel)) (by decide +kernel)
theorem gI_RX6_13 : mGetI RX6 13 6 5 := ⟨6, RX6, TX6, cls_6, rfl, by decide, by decide, rfl, by decide, kf_RX6_13⟩
theorem kf_RX6_16 : Cond.fieldLink "DriverBook$Field" 16 "DriverBook$Field" "kind" "I" ∈ mTb := tm1 (List.mem_of_getElem? (i := 56) (by decide +kernel)) (by decide +kernel)
theorem gI_RX6_16 : mGetI RX6 16 6 3 := ⟨6, RX6, TX6, cls_6, rfl, by decide, by decide, rfl, by decide, kf_RX6_16⟩
theorem kf_RX7_7 : Cond.fieldLink "DriverBook$Law" 7 "DriverBook$Law" "f" "I" ∈ mTb := tm1 (List.mem_of_getElem? (i := 106) (by decide +kernel)) (by decide +kernel)
theorem gI_RX7_7 : mGetI RX7 7 7 1 := ⟨7, RX7, TX7, cls_7, rfl, by decide, by decide, rfl, by decide, kf_RX7_7⟩
theorem kf_RX7_13 : Cond.fieldLink "DriverBook$Law" 13 "DriverBook$Law" "g" "I" ∈ mTb := tm1 (List.mem_of_getElem? (i := 109) (by decide +kernel)) (by decide +kernel)
theorem gI_RX7_13 : mGetI RX7 13 7 2 := ⟨7, RX7, TX7, cls_7, rfl, by decide, by decide, rfl, by decide, kf_RX7_13⟩
theorem kf_RX8_9 : Cond.fieldLink "DriverBook$State" 9 "DriverBook$State" "value" "[I" ∈ mTb := tm2 (List.mem_of_getElem? (i := 6) (by decide +kernel)) (by decide +kernel)
theorem gR_RX8_9 (i : Nat) : mGetR RX8 9 8 0 i (33, i) := ⟨8, RX8, TX8, cls_8, rfl, by decide, by decide, rfl, kf_RX8_9, rfl, fun q => q⟩
theorem kf_RX8_15 : Cond.fieldLink "DriverBook$State" 15 "DriverBook$State" "pending" "[I" ∈ mTb := tm2 (List.mem_of_getElem? (i := 11) (by decide +kernel)) (by decide +kernel)
theorem gR_RX8_15 (i : Nat) : mGetR RX8 15 8 1 i (34, i) := ⟨8, RX8, TX8, cls_8, rfl, by decide, by decide, rfl, kf_RX8_15, rfl, fun q => q⟩
theorem kf_RX8_18 : Cond.fieldLink "DriverBook$State" 18 "DriverBook$State" "timer" "[I" ∈ mTb := tm2 (List.mem_of_getElem? (i := 15) (by decide +kernel)) (by decide +kernel)
theorem gR_RX8_18 (i : Nat) : mGetR RX8 18 8 2 i (35, i) := ⟨8, RX8, TX8, cls_8, rfl, by decide, by decide, rfl, kf_RX8_18, rfl, fun q => q⟩
theorem kf_RX8_21 : Cond.fieldLink "DriverBook$State" 21 "DriverBook$State" "soft" "[I" ∈ mTb := tm2 (List.mem_of_getElem? (i := 18) (by decide +kernel)) (by decide +kernel)
theorem gR_RX8_21 (i : Nat) : mGetR RX8 21 8 3 i (36, i) := ⟨8, RX8, TX8, cls_8, rfl, by decide, by decide, rfl, kf_RX8_21, rfl, fun q => q⟩
theorem kf_RX8_24 : Cond.fieldLink "DriverBook$State" 24 "DriverBook$State" "lastHit" "[J" ∈ mTb := tm2 (List.mem_of_getElem? (i := 22) (by decide +kernel)) (by decide +kernel)
theorem gR_RX8_24 (i : Nat) : mGetR RX8 24 8 4 i (37, i) := ⟨8, RX8, TX8, cls_8, rfl, by decide, by decide, rfl, kf_RX8_24, rfl, fun q => q⟩
theorem kf_RX8_28 : Cond.fieldLink "DriverBook$State" 28 "DriverBook$State" "shadow" "[I" ∈ mTb := tm2 (List.mem_of_getElem? (i := 24) (by decide +kernel)) (by decide +kernel)
theorem gR_RX8_28 (i : Nat) : mGetR RX8 28 8 5 i (38, i) := ⟨8, RX8, TX8, cls_8, rfl, by decide, by decide, rfl, kf_RX8_28, rfl, fun q => q⟩
theorem kf_RX8_31 : Cond.fieldLink "DriverBook$State" 31 "DriverBook$State" "eventField" "[I" ∈ mTb := tm2 (List.mem_of_getElem? (i := 28) (by decide +kernel)) (by decide +kernel)
theorem gR_RX8_31 (i : Nat) : mGetR RX8 31 8 6 i (39, i) := ⟨8, RX8, TX8, cls_8, rfl, by decide, by decide, rfl, kf_RX8_31, rfl, fun q => q⟩
theorem kf_RX8_34 : Cond.fieldLink "DriverBook$State" 34 "DriverBook$State" "eventValue" "[I" ∈ mTb := tm2 (List.mem_of_getElem? (i := 30) (by decide +kernel)) (by decide +kernel)
theorem gR_RX8_34 (i : Nat) : mGetR RX8 34 8 7 i (40, i) := ⟨8, RX8, TX8, cls_8, rfl, by decide, by decide, rfl, kf_RX8_34, rfl, fun q => q⟩
theorem kf_RX8_37 : Cond.fieldLink "DriverBook$State" 37 "DriverBook$State" "eventTick" "[J" ∈ mTb := tm2 (List.mem_of_getElem? (i := 32) (by decide +kernel)) (by decide +kernel)
theorem gR_RX8_37 (i : Nat) : mGetR RX8 37 8 8 i (41, i) := ⟨8, RX8, TX8, cls_8, rfl, by decide, by decide, rfl, kf_RX8_37, rfl, fun q => q⟩
theorem kf_RX8_40 : Cond.fieldLink "DriverBook$State" 40 "DriverBook$State" "eventCount" "I" ∈ mTb := tm2 (List.mem_of_getElem? (i := 34) (by decide +kernel)) (by decide +kernel)
theorem gI_RX8_40 : mGetI RX8 40 8 9 := ⟨8, RX8, TX8, cls_8, rfl, by decide, by decide, rfl, by decide, kf_RX8_40⟩
theorem pI_RX8_40 : mPutI RX8 40 8 9 .int := ⟨8, RX8, TX8, cls_8, rfl, by decide, by decide, rfl, rfl, by decide, rfl, kf_RX8_40⟩
theorem kf_RX8_44 : Cond.fieldLink "DriverBook$State" 44 "DriverBook$State" "now" "J" ∈ mTb := tm2 (List.mem_of_getElem? (i := 38) (by decide +kernel)) (by decide +kernel)
theorem gJ_RX8_44 : mGetJ RX8 44 8 10 := ⟨8, RX8, TX8, cls_8, rfl, by decide, by decide, rfl, kf_RX8_44⟩
theorem pJ_RX8_44 : mPutJ RX8 44 8 10 := ⟨8, RX8, TX8, cls_8, rfl, by decide, by decide, rfl, rfl, kf_RX8_44⟩
theorem kf_RX8_48 : Cond.fieldLink "DriverBook$State" 48 "DriverBook$State" "result" "I" ∈ mTb := tm2 (List.mem_of_getElem? (i := 42) (by decide +kernel)) (by decide +kernel)
theorem gI_RX8_48 : mGetI RX8 48 8 11 := ⟨8, RX8, TX8, cls_8, rfl, by decide, by decide, rfl, by decide, kf_RX8_48⟩
theorem pI_RX8_48 : mPutI RX8 48 8 11 .int := ⟨8, RX8, TX8, cls_8, rfl, by decide, by decide, rfl, rfl, by decide, rfl, kf_RX8_48⟩
theorem kf_RX8_51 : Cond.fieldLink "DriverBook$State" 51 "DriverBook$State" "served" "I" ∈ mTb := tm2 (List.mem_of_getElem? (i := 45) (by decide +kernel)) (by decide +kernel)
theorem gI_RX8_51 : mGetI RX8 51 8 12 := ⟨8, RX8, TX8, cls_8, rfl, by decide, by decide, rfl, by decide, kf_RX8_51⟩
theorem pI_RX8_51 : mPutI RX8 51 8 12 .int := ⟨8, RX8, TX8, cls_8, rfl, by decide, by decide, rfl, rfl, by decide, rfl, kf_RX8_51⟩
theorem kf_RX8_54 : Cond.fieldLink "DriverBook$State" 54 "DriverBook$State" "breakCount" "J" ∈ mTb := tm2 (List.mem_of_getElem? (i := 49) (by decide +kernel)) (by decide +kernel)
theorem gJ_RX8_54 : mGetJ RX8 54 8 13 := ⟨8, RX8, TX8, cls_8, rfl, by decide, by decide, rfl, kf_RX8_54⟩
theorem pJ_RX8_54 : mPutJ RX8 54 8 13 := ⟨8, RX8, TX8, cls_8, rfl, by decide, by decide, rfl, rfl, kf_RX8_54⟩
theorem kf_RX8_57 : Cond.fieldLink "DriverBook$State" 57 "DriverBook$State" "firstLaw" "I" ∈ mTb := tm2 (List.mem_of_getElem? (i := 53) (by decide +kernel)) (by decide +kernel)
theorem gI_RX8_57 : mGetI RX8 57 8 14 := ⟨8, RX8, TX8, cls_8, rfl, by decide, by decide, rfl, by decide, kf_RX8_57⟩
theorem pI_RX8_57 : mPutI RX8 57 8 14 .int := ⟨8, RX8, TX8, cls_8, rfl, by decide, by decide, rfl, rfl, by decide, rfl, kf_RX8_57⟩
theorem kf_RX8_62 : Cond.fieldLink "DriverBook$State" 62 "DriverBook$State" "firstNow" "J" ∈ mTb := tm2 (List.mem_of_getElem? (i := 55) (by decide +kernel)) (by decide +kernel)
theorem gJ_RX8_62 : mGetJ RX8 62 8 15 := ⟨8, RX8, TX8, cls_8, rfl, by decide, by decide, rfl, kf_RX8_62⟩
theorem pJ_RX8_62 : mPutJ RX8 62 8 15 := ⟨8, RX8, TX8, cls_8, rfl, by decide, by decide, rfl, rfl, kf_RX8_62⟩
theorem kf_RX9_11 : Cond.fieldLink "DriverBook$Tape" 11 "DriverBook$Tape" "sort" "I" ∈ mTb := tm2 (List.mem_of_getElem? (i := 214) (by decide +kernel)) (by decide +kernel)
theorem gI_RX9_11 : mGetI RX9 11 9 0 := ⟨9, RX9, TX9, cls_9, rfl, by decide, by decide, rfl, by decide, kf_RX9_11⟩
theorem pI_RX9_11 : mPutI RX9 11 9 0 .int := ⟨9, RX9, TX9, cls_9, rfl, by decide, by decide, rfl, rfl, by decide, rfl, kf_RX9_11⟩
theorem kf_RX9_15 : Cond.fieldLink "DriverBook$Tape" 15 "DriverBook$Tape" "length" "I" ∈ mTb := tm2 (List.mem_of_getElem? (i := 216) (by decide +kernel)) (by decide +kernel)
theorem gI_RX9_15 : mGetI RX9 15 9 1 := ⟨9, RX9, TX9, cls_9, rfl, by decide, by decide, rfl, by decide, kf_RX9_15⟩
theorem pI_RX9_15 : mPutI RX9 15 9 1 .int := ⟨9, RX9, TX9, cls_9, rfl, by decide, by decide, rfl, rfl, by decide, rfl, kf_RX9_15⟩
theorem kf_RX9_18 : Cond.fieldLink "DriverBook$Tape" 18 "DriverBook$Tape" "row" "[J" ∈ mTb := tm2 (List.mem_of_getElem? (i := 217) (by decide +kernel)) (by decide +kernel)
theorem gR_RX9_18 (i : Nat) : mGetR RX9 18 9 2 i (42, i) := ⟨9, RX9, TX9, cls_9, rfl, by decide, by decide, rfl, kf_RX9_18, rfl, fun q => q⟩
theorem kf_RX9_25 : Cond.fieldLink "DriverBook$Tape" 25 "DriverBook$Tape" "image" "LDriverBook$State;" ∈ mTb := tm2 (List.mem_of_getElem? (i := 219) (by decide +kernel)) (by decide +kernel)
theorem gR_RX9_25 (i : Nat) : mGetR RX9 25 9 3 i (8, i + 2) := ⟨9, RX9, TX9, cls_9, rfl, by decide, by decide, rfl, kf_RX9_25, rfl, fun q => Nat.add_lt_add_right q 2⟩
theorem kf_RX9_29 : Cond.fieldLink "DriverBook$Tape" 29 "DriverBook$Tape" "age" "I" ∈ mTb := tm2 (List.mem_of_getElem? (i := 221) (by decide +kernel)) (by decide +kernel)
theorem gI_RX9_29 : mGetI RX9 29 9 4 := ⟨9, RX9, TX9, cls_9, rfl, by decide, by decide, rfl, by decide, kf_RX9_29⟩
theorem pI_RX9_29 : mPutI RX9 29 9 4 .int := ⟨9, RX9, TX9, cls_9, rfl, by decide, by decide, rfl, rfl, by decide, rfl, kf_RX9_29⟩
theorem kf_RX10_12 : Cond.fieldLink "DriverBook$Walker" 12 "DriverBook$Walker" "start" "LDriverBook$State;" ∈ mTb := tm2 (List.mem_of_getElem? (i := 181) (by decide +kernel)) (by decide +kernel)
theorem gR_RX10_12 (i : Nat) : mGetR RX10 12 10 3 i (8, 1) := ⟨10, RX10, TX10, cls_10, rfl, by decide, by decide, rfl, kf_RX10_12, rfl, fun _ => by decide⟩
theorem kf_RX10_18 : Cond.fieldLink "DriverBook$Walker" 18 "DriverBook$Walker" "byAct" "[I" ∈ mTb := tm2 (List.mem_of_getElem? (i := 182) (by decide +kernel)) (by decide +kernel)
theorem gR_RX10_18 (i : Nat) : mGetR RX10 18 10 4 i (43, i) := ⟨10, RX10, TX10, cls_10, rfl, by decide, by decide, rfl, kf_RX10_18, rfl, fun q => q⟩
theorem kf_RX10_22 : Cond.fieldLink "DriverBook$Walker" 22 "DriverBook$Walker" "byHandler" "[I" ∈ mTb := tm2 (List.mem_of_getElem? (i := 183) (by decide +kernel)) (by decide +kernel)
theorem gR_RX10_22 (i : Nat) : mGetR RX10 22 10 5 i (44, i) := ⟨10, RX10, TX10, cls_10, rfl, by decide, by decide, rfl, kf_RX10_22, rfl, fun q => q⟩
theorem kf_RX10_25 : Cond.fieldLink "DriverBook$Walker" 25 "DriverBook$Walker" "rule" "I" ∈ mTb := tm2 (List.mem_of_getElem? (i := 184) (by decide +kernel)) (by decide +kernel)
theorem gI_RX10_25 : mGetI RX10 25 10 6 := ⟨10, RX10, TX10, cls_10, rfl, by decide, by decide, rfl, by decide, kf_RX10_25⟩
theorem pI_RX10_25 : mPutI RX10 25 10 6 .int := ⟨10, RX10, TX10, cls_10, rfl, by decide, by decide, rfl, rfl, by decide, rfl, kf_RX10_25⟩
theorem kf_RX10_29 : Cond.fieldLink "DriverBook$Walker" 29 "DriverBook$Walker" "ruleField" "I" ∈ mTb := tm2 (List.mem_of_getElem? (i := 186) (by decide +kernel)) (by decide +kernel)
theorem gI_RX10_29 : mGetI RX10 29 10 7 := ⟨10, RX10, TX10, cls_10, rfl, by decide, by decide, rfl, by decide, kf_RX10_29⟩
theorem pI_RX10_29 : mPutI RX10 29 10 7 .int := ⟨10, RX10, TX10, cls_10, rfl, by decide, by decide, rfl, rfl, by decide, rfl, kf_RX10_29⟩
theorem kf_RX10_32 : Cond.fieldLink "DriverBook$Walker" 32 "DriverBook$Walker" "book" "LDriverBook$Book;" ∈ mTb := tm2 (List.mem_of_getElem? (i := 178) (by decide +kernel)) (by decide +kernel)
theorem gR_RX10_32 (i : Nat) : mGetR RX10 32 10 0 i (1, 0) := ⟨10, RX10, TX10, cls_10, rfl, by decide, by decide, rfl, kf_RX10_32, rfl, fun _ => by decide⟩
theorem kf_RX10_36 : Cond.fieldLink "DriverBook$Walker" 36 "DriverBook$Walker" "state" "LDriverBook$State;" ∈ mTb := tm2 (List.mem_of_getElem? (i := 179) (by decide +kernel)) (by decide +kernel)
theorem gR_RX10_36 (i : Nat) : mGetR RX10 36 10 1 i (8, 0) := ⟨10, RX10, TX10, cls_10, rfl, by decide, by decide, rfl, kf_RX10_36, rfl, fun _ => by decide⟩
theorem kf_RX10_39 : Cond.fieldLink "DriverBook$Walker" 39 "DriverBook$Walker" "driver" "LDriverBook$Driver;" ∈ mTb := tm2 (List.mem_of_getElem? (i := 180) (by decide +kernel)) (by decide +kernel)
theorem gR_RX10_39 (i : Nat) : mGetR RX10 39 10 2 i (5, 0) := ⟨10, RX10, TX10, cls_10, rfl, by decide, by decide, rfl, kf_RX10_39, rfl, fun _ => by decide⟩
theorem kf_RX10_53 : Cond.fieldLink "DriverBook$Walker" 53 "DriverBook$State" "eventCount" "I" ∈ mTb := tm2 (List.mem_of_getElem? (i := 36) (by decide +kernel)) (by decide +kernel)
theorem gI_RX10_53 : mGetI RX10 53 8 9 := ⟨8, RX8, TX8, cls_8, rfl, by decide, by decide, rfl, by decide, kf_RX10_53⟩
theorem kf_RX10_56 : Cond.fieldLink "DriverBook$Walker" 56 "DriverBook$State" "now" "J" ∈ mTb := tm2 (List.mem_of_getElem? (i := 40) (by decide +kernel)) (by decide +kernel)
theorem gJ_RX10_56 : mGetJ RX10 56 8 10 := ⟨8, RX8, TX8, cls_8, rfl, by decide, by decide, rfl, kf_RX10_56⟩
theorem kf_RX10_64 : Cond.fieldLink "DriverBook$Walker" 64 "DriverBook$State" "served" "I" ∈ mTb := tm2 (List.mem_of_getElem? (i := 47) (by decide +kernel)) (by decide +kernel)
theorem gI_RX10_64 : mGetI RX10 64 8 12 := ⟨8, RX8, TX8, cls_8, rfl, by decide, by decide, rfl, by decide, kf_RX10_64⟩
theorem kf_RX10_67 : Cond.fieldLink "DriverBook$Walker" 67 "DriverBook$Book" "acts" "[LDriverBook$Act;" ∈ mTb := tm1 (List.mem_of_getElem? (i := 195) (by decide +kernel)) (by decide +kernel)
theorem gR_RX10_67 (i : Nat) : mGetR RX10 67 1 2 i (26, i) := ⟨1, RX1, TX1, cls_1, rfl, by decide, by decide, rfl, kf_RX10_67, rfl, fun q => q⟩
theorem kf_RX10_73 : Cond.fieldLink "DriverBook$Walker" 73 "DriverBook$Book" "fields" "[LDriverBook$Field;" ∈ mTb := tm1 (List.mem_of_getElem? (i := 190) (by decide +kernel)) (by decide +kernel)
theorem gR_RX10_73 (i : Nat) : mGetR RX10 73 1 0 i (24, i) := ⟨1, RX1, TX1, cls_1, rfl, by decide, by decide, rfl, kf_RX10_73, rfl, fun q => q⟩
theorem kf_RX10_77 : Cond.fieldLink "DriverBook$Walker" 77 "DriverBook$Field" "handler" "I" ∈ mTb := tm1 (List.mem_of_getElem? (i := 75) (by decide +kernel)) (by decide +kernel)
theorem gI_RX10_77 : mGetI RX10 77 6 9 := ⟨6, RX6, TX6, cls_6, rfl, by decide, by decide, rfl, by decide, kf_RX10_77⟩
theorem kf_RX10_101 : Cond.fieldLink "DriverBook$Walker" 101 "DriverBook$Book" "fieldCount" "I" ∈ mTb := tm1 (List.mem_of_getElem? (i := 203) (by decide +kernel)) (by decide +kernel)
theorem gI_RX10_101 : mGetI RX10 101 1 4 := ⟨1, RX1, TX1, cls_1, rfl, by decide, by decide, rfl, by decide, kf_RX10_101⟩
theorem kf_RX10_110 : Cond.fieldLink "DriverBook$Walker" 110 "DriverBook$State" "breakCount" "J" ∈ mTb := tm2 (List.mem_of_getElem? (i := 50) (by decide +kernel)) (by decide +kernel)
theorem gJ_RX10_110 : mGetJ RX10 110 8 13 := ⟨8, RX8, TX8, cls_8, rfl, by decide, by decide, rfl, kf_RX10_110⟩
theorem kf_RX10_120 : Cond.fieldLink "DriverBook$Walker" 120 "DriverBook$Field" "kind" "I" ∈ mTb := tm1 (List.mem_of_getElem? (i := 61) (by decide +kernel)) (by decide +kernel)
theorem gI_RX10_120 : mGetI RX10 120 6 3 := ⟨6, RX6, TX6, cls_6, rfl, by decide, by decide, rfl, by decide, kf_RX10_120⟩
theorem kf_RX10_123 : Cond.fieldLink "DriverBook$Walker" 123 "DriverBook$State" "value" "[I" ∈ mTb := tm2 (List.mem_of_getElem? (i := 9) (by decide +kernel)) (by decide +kernel)
theorem gR_RX10_123 (i : Nat) : mGetR RX10 123 8 0 i (33, i) := ⟨8, RX8, TX8, cls_8, rfl, by decide, by decide, rfl, kf_RX10_123, rfl, fun q => q⟩
theorem kf_RX10_126 : Cond.fieldLink "DriverBook$Walker" 126 "DriverBook$State" "pending" "[I" ∈ mTb := tm2 (List.mem_of_getElem? (i := 13) (by decide +kernel)) (by decide +kernel)
theorem gR_RX10_126 (i : Nat) : mGetR RX10 126 8 1 i (34, i) := ⟨8, RX8, TX8, cls_8, rfl, by decide, by decide, rfl, kf_RX10_126, rfl, fun q => q⟩
theorem kf_RX12_7 : Cond.fieldLink "DriverBookModel" 7 "DriverBookModel" "registers" "I" ∈ mTb := tm5 (List.mem_of_getElem? (i := 129) (by decide +kernel)) (by decide +kernel)
theorem gI_RX12_7 : mGetI RX12 7 12 1 := ⟨12, RX12, TX12, cls_12, rfl, by decide, by decide, rfl, by decide, kf_RX12_7⟩
theorem pI_RX12_7 : mPutI RX12 7 12 1 .int := ⟨12, RX12, TX12, cls_12, rfl, by decide, by decide, rfl, rfl, by decide, rfl, kf_RX12_7⟩
theorem kf_RX12_13 : Cond.fieldLink "DriverBookModel" 13 "DriverBookModel" "register" "[I" ∈ mTb := tm5 (List.mem_of_getElem? (i := 131) (by decide +kernel)) (by decide +kernel)
theorem gR_RX12_13 (i : Nat) : mGetR RX12 13 12 3 i (46, i) := ⟨12, RX12, TX12, cls_12, rfl, by decide, by decide, rfl, kf_RX12_13, rfl, fun q => q⟩
theorem kf_RX12_17 : Cond.fieldLink "DriverBookModel" 17 "DriverBookModel" "low" "[I" ∈ mTb := tm5 (List.mem_of_getElem? (i := 132) (by decide +kernel)) (by decide +kernel)
theorem gR_RX12_17 (i : Nat) : mGetR RX12 17 12 4 i (47, i) := ⟨12, RX12, TX12, cls_12, rfl, by decide, by decide, rfl, kf_RX12_17, rfl, fun q => q⟩
theorem kf_RX12_20 : Cond.fieldLink "DriverBookModel" 20 "DriverBookModel" "width" "[I" ∈ mTb := tm5 (List.mem_of_getElem? (i := 133) (by decide +kernel)) (by decide +kernel)
theorem gR_RX12_20 (i : Nat) : mGetR RX12 20 12 5 i (48, i) := ⟨12, RX12, TX12, cls_12, rfl, by decide, by decide, rfl, kf_RX12_20, rfl, fun q => q⟩
theorem kf_RX12_23 : Cond.fieldLink "DriverBookModel" 23 "DriverBookModel" "kind" "[I" ∈ mTb := tm5 (List.mem_of_getElem? (i := 134) (by decide +kernel)) (by decide +kernel)
theorem gR_RX12_23 (i : Nat) : mGetR RX12 23 12 6 i (49, i) := ⟨12, RX12, TX12, cls_12, rfl, by decide, by decide, rfl, kf_RX12_23, rfl, fun q => q⟩
theorem kf_RX12_26 : Cond.fieldLink "DriverBookModel" 26 "DriverBookModel" "reset" "[I" ∈ mTb := tm5 (List.mem_of_getElem? (i := 135) (by decide +kernel)) (by decide +kernel)
theorem gR_RX12_26 (i : Nat) : mGetR RX12 26 12 7 i (50, i) := ⟨12, RX12, TX12, cls_12, rfl, by decide, by decide, rfl, kf_RX12_26, rfl, fun q => q⟩
theorem kf_RX12_29 : Cond.fieldLink "DriverBookModel" 29 "DriverBookModel" "period" "[I" ∈ mTb := tm5 (List.mem_of_getElem? (i := 136) (by decide +kernel)) (by decide +kernel)
theorem gR_RX12_29 (i : Nat) : mGetR RX12 29 12 8 i (51, i) := ⟨12, RX12, TX12, cls_12, rfl, by decide, by decide, rfl, kf_RX12_29, rfl, fun q => q⟩
theorem kf_RX12_32 : Cond.fieldLink "DriverBookModel" 32 "DriverBookModel" "done" "[I" ∈ mTb := tm5 (List.mem_of_getElem? (i := 137) (by decide +kernel)) (by decide +kernel)
theorem gR_RX12_32 (i : Nat) : mGetR RX12 32 12 9 i (52, i) := ⟨12, RX12, TX12, cls_12, rfl, by decide, by decide, rfl, kf_RX12_32, rfl, fun q => q⟩
theorem kf_RX12_35 : Cond.fieldLink "DriverBookModel" 35 "DriverBookModel" "handler" "[I" ∈ mTb := tm5 (List.mem_of_getElem? (i := 138) (by decide +kernel)) (by decide +kernel)
theorem gR_RX12_35 (i : Nat) : mGetR RX12 35 12 10 i (53, i) := ⟨12, RX12, TX12, cls_12, rfl, by decide, by decide, rfl, kf_RX12_35, rfl, fun q => q⟩
theorem kf_RX12_38 : Cond.fieldLink "DriverBookModel" 38 "DriverBookModel" "lawKind" "[I" ∈ mTb := tm5 (List.mem_of_getElem? (i := 140) (by decide +kernel)) (by decide +kernel)
theorem gR_RX12_38 (i : Nat) : mGetR RX12 38 12 12 i (54, i) := ⟨12, RX12, TX12, cls_12, rfl, by decide, by decide, rfl, kf_RX12_38, rfl, fun q => q⟩
theorem kf_RX12_41 : Cond.fieldLink "DriverBookModel" 41 "DriverBookModel" "lawF" "[I" ∈ mTb := tm5 (List.mem_of_getElem? (i := 141) (by decide +kernel)) (by decide +kernel)
theorem gR_RX12_41 (i : Nat) : mGetR RX12 41 12 13 i (55, i) := ⟨12, RX12, TX12, cls_12, rfl, by decide, by decide, rfl, kf_RX12_41, rfl, fun q => q⟩
theorem kf_RX12_44 : Cond.fieldLink "DriverBookModel" 44 "DriverBookModel" "lawG" "[I" ∈ mTb := tm5 (List.mem_of_getElem? (i := 142) (by decide +kernel)) (by decide +kernel)
theorem gR_RX12_44 (i : Nat) : mGetR RX12 44 12 14 i (56, i) := ⟨12, RX12, TX12, cls_12, rfl, by decide, by decide, rfl, kf_RX12_44, rfl, fun q => q⟩
theorem kf_RX12_47 : Cond.fieldLink "DriverBookModel" 47 "DriverBookModel" "lawV" "[I" ∈ mTb := tm5 (List.mem_of_getElem? (i := 143) (by decide +kernel)) (by decide +kernel)
theorem gR_RX12_47 (i : Nat) : mGetR RX12 47 12 15 i (57, i) := ⟨12, RX12, TX12, cls_12, rfl, by decide, by decide, rfl, kf_RX12_47, rfl, fun q => q⟩
theorem kf_RX12_50 : Cond.fieldLink "DriverBookModel" 50 "DriverBookModel" "steps" "[I" ∈ mTb := tm5 (List.mem_of_getElem? (i := 145) (by decide +kernel)) (by decide +kernel)
theorem gR_RX12_50 (i : Nat) : mGetR RX12 50 12 17 i (58, i) := ⟨12, RX12, TX12, cls_12, rfl, by decide, by decide, rfl, kf_RX12_50, rfl, fun q => q⟩
theorem kf_RX12_53 : Cond.fieldLink "DriverBookModel" 53 "DriverBookModel" "stepKind" "[I" ∈ mTb := tm5 (List.mem_of_getElem? (i := 146) (by decide +kernel)) (by decide +kernel)
theorem gR_RX12_53 (i : Nat) : mGetR RX12 53 12 18 i (59, i) := ⟨12, RX12, TX12, cls_12, rfl, by decide, by decide, rfl, kf_RX12_53, rfl, fun q => q⟩
theorem kf_RX12_56 : Cond.fieldLink "DriverBookModel" 56 "DriverBookModel" "stepField" "[I" ∈ mTb := tm5 (List.mem_of_getElem? (i := 147) (by decide +kernel)) (by decide +kernel)
theorem gR_RX12_56 (i : Nat) : mGetR RX12 56 12 19 i (60, i) := ⟨12, RX12, TX12, cls_12, rfl, by decide, by decide, rfl, kf_RX12_56, rfl, fun q => q⟩
theorem kf_RX12_59 : Cond.fieldLink "DriverBookModel" 59 "DriverBookModel" "stepV" "[I" ∈ mTb := tm5 (List.mem_of_getElem? (i := 148) (by decide +kernel)) (by decide +kernel)
theorem gR_RX12_59 (i : Nat) : mGetR RX12 59 12 20 i (61, i) := ⟨12, RX12, TX12, cls_12, rfl, by decide, by decide, rfl, kf_RX12_59, rfl, fun q => q⟩
theorem kf_RX12_62 : Cond.fieldLink "DriverBookModel" 62 "DriverBookModel" "stepLimit" "[I" ∈ mTb := tm5 (List.mem_of_getElem? (i := 149) (by decide +kernel)) (by decide +kernel)
theorem gR_RX12_62 (i : Nat) : mGetR RX12 62 12 21 i (62, i) := ⟨12, RX12, TX12, cls_12, rfl, by decide, by decide, rfl, kf_RX12_62, rfl, fun q => q⟩
theorem kf_RX12_65 : Cond.fieldLink "DriverBookModel" 65 "DriverBookModel" "locksOn" "I" ∈ mTb := tm5 (List.mem_of_getElem? (i := 150) (by decide +kernel)) (by decide +kernel)
theorem gI_RX12_65 : mGetI RX12 65 12 22 := ⟨12, RX12, TX12, cls_12, rfl, by decide, by decide, rfl, by decide, kf_RX12_65⟩
theorem pI_RX12_65 : mPutI RX12 65 12 22 .int := ⟨12, RX12, TX12, cls_12, rfl, by decide, by decide, rfl, rfl, by decide, rfl, kf_RX12_65⟩
theorem kf_RX12_68 : Cond.fieldLink "DriverBookModel" 68 "DriverBookModel" "value" "[I" ∈ mTb := tm5 (List.mem_of_getElem? (i := 152) (by decide +kernel)) (by decide +kernel)
theorem gR_RX12_68 (i : Nat) : mGetR RX12 68 12 24 i (63, i) := ⟨12, RX12, TX12, cls_12, rfl, by decide, by decide, rfl, kf_RX12_68, rfl, fun q => q⟩
theorem kf_RX12_71 : Cond.fieldLink "DriverBookModel" 71 "DriverBookModel" "pending" "[I" ∈ mTb := tm5 (List.mem_of_getElem? (i := 153) (by decide +kernel)) (by decide +kernel)
theorem gR_RX12_71 (i : Nat) : mGetR RX12 71 12 25 i (64, i) := ⟨12, RX12, TX12, cls_12, rfl, by decide, by decide, rfl, kf_RX12_71, rfl, fun q => q⟩
theorem kf_RX12_74 : Cond.fieldLink "DriverBookModel" 74 "DriverBookModel" "timer" "[I" ∈ mTb := tm5 (List.mem_of_getElem? (i := 154) (by decide +kernel)) (by decide +kernel)
theorem gR_RX12_74 (i : Nat) : mGetR RX12 74 12 26 i (65, i) := ⟨12, RX12, TX12, cls_12, rfl, by decide, by decide, rfl, kf_RX12_74, rfl, fun q => q⟩
theorem kf_RX12_77 : Cond.fieldLink "DriverBookModel" 77 "DriverBookModel" "soft" "[I" ∈ mTb := tm5 (List.mem_of_getElem? (i := 155) (by decide +kernel)) (by decide +kernel)
theorem gR_RX12_77 (i : Nat) : mGetR RX12 77 12 27 i (66, i) := ⟨12, RX12, TX12, cls_12, rfl, by decide, by decide, rfl, kf_RX12_77, rfl, fun q => q⟩
theorem kf_RX12_80 : Cond.fieldLink "DriverBookModel" 80 "DriverBookModel" "hit" "[I" ∈ mTb := tm5 (List.mem_of_getElem? (i := 156) (by decide +kernel)) (by decide +kernel)
theorem gR_RX12_80 (i : Nat) : mGetR RX12 80 12 28 i (67, i) := ⟨12, RX12, TX12, cls_12, rfl, by decide, by decide, rfl, kf_RX12_80, rfl, fun q => q⟩
theorem kf_RX12_83 : Cond.fieldLink "DriverBookModel" 83 "DriverBookModel" "shadow" "[I" ∈ mTb := tm5 (List.mem_of_getElem? (i := 157) (by decide +kernel)) (by decide +kernel)
theorem gR_RX12_83 (i : Nat) : mGetR RX12 83 12 29 i (68, i) := ⟨12, RX12, TX12, cls_12, rfl, by decide, by decide, rfl, kf_RX12_83, rfl, fun q => q⟩
theorem kf_RX12_86 : Cond.fieldLink "DriverBookModel" 86 "DriverBookModel" "eventField" "[I" ∈ mTb := tm5 (List.mem_of_getElem? (i := 159) (by decide +kernel)) (by decide +kernel)
theorem gR_RX12_86 (i : Nat) : mGetR RX12 86 12 31 i (69, i) := ⟨12, RX12, TX12, cls_12, rfl, by decide, by decide, rfl, kf_RX12_86, rfl, fun q => q⟩
theorem kf_RX12_89 : Cond.fieldLink "DriverBookModel" 89 "DriverBookModel" "eventV" "[I" ∈ mTb := tm5 (List.mem_of_getElem? (i := 160) (by decide +kernel)) (by decide +kernel)
theorem gR_RX12_89 (i : Nat) : mGetR RX12 89 12 32 i (70, i) := ⟨12, RX12, TX12, cls_12, rfl, by decide, by decide, rfl, kf_RX12_89, rfl, fun q => q⟩
theorem kf_RX12_92 : Cond.fieldLink "DriverBookModel" 92 "DriverBookModel" "eventTick" "[I" ∈ mTb := tm5 (List.mem_of_getElem? (i := 161) (by decide +kernel)) (by decide +kernel)
theorem gR_RX12_92 (i : Nat) : mGetR RX12 92 12 33 i (71, i) := ⟨12, RX12, TX12, cls_12, rfl, by decide, by decide, rfl, kf_RX12_92, rfl, fun q => q⟩
theorem kf_RX12_95 : Cond.fieldLink "DriverBookModel" 95 "DriverBookModel" "sNow" "[I" ∈ mTb := tm5 (List.mem_of_getElem? (i := 167) (by decide +kernel)) (by decide +kernel)
theorem gR_RX12_95 (i : Nat) : mGetR RX12 95 12 39 i (72, i) := ⟨12, RX12, TX12, cls_12, rfl, by decide, by decide, rfl, kf_RX12_95, rfl, fun q => q⟩
theorem kf_RX12_98 : Cond.fieldLink "DriverBookModel" 98 "DriverBookModel" "sValue" "[I" ∈ mTb := tm5 (List.mem_of_getElem? (i := 168) (by decide +kernel)) (by decide +kernel)
theorem gR_RX12_98 (i : Nat) : mGetR RX12 98 12 40 i (73, i) := ⟨12, RX12, TX12, cls_12, rfl, by decide, by decide, rfl, kf_RX12_98, rfl, fun q => q⟩
theorem kf_RX12_101 : Cond.fieldLink "DriverBookModel" 101 "DriverBookModel" "sPending" "[I" ∈ mTb := tm5 (List.mem_of_getElem? (i := 169) (by decide +kernel)) (by decide +kernel)
theorem gR_RX12_101 (i : Nat) : mGetR RX12 101 12 41 i (74, i) := ⟨12, RX12, TX12, cls_12, rfl, by decide, by decide, rfl, kf_RX12_101, rfl, fun q => q⟩
theorem kf_RX12_104 : Cond.fieldLink "DriverBookModel" 104 "DriverBookModel" "sTimer" "[I" ∈ mTb := tm5 (List.mem_of_getElem? (i := 170) (by decide +kernel)) (by decide +kernel)
theorem gR_RX12_104 (i : Nat) : mGetR RX12 104 12 42 i (75, i) := ⟨12, RX12, TX12, cls_12, rfl, by decide, by decide, rfl, kf_RX12_104, rfl, fun q => q⟩
theorem kf_RX12_107 : Cond.fieldLink "DriverBookModel" 107 "DriverBookModel" "sSoft" "[I" ∈ mTb := tm5 (List.mem_of_getElem? (i := 171) (by decide +kernel)) (by decide +kernel)
theorem gR_RX12_107 (i : Nat) : mGetR RX12 107 12 43 i (76, i) := ⟨12, RX12, TX12, cls_12, rfl, by decide, by decide, rfl, kf_RX12_107, rfl, fun q => q⟩
theorem kf_RX12_110 : Cond.fieldLink "DriverBookModel" 110 "DriverBookModel" "sHit" "[I" ∈ mTb := tm5 (List.mem_of_getElem? (i := 172) (by decide +kernel)) (by decide +kernel)
theorem gR_RX12_110 (i : Nat) : mGetR RX12 110 12 44 i (77, i) := ⟨12, RX12, TX12, cls_12, rfl, by decide, by decide, rfl, kf_RX12_110, rfl, fun q => q⟩
theorem kf_RX12_113 : Cond.fieldLink "DriverBookModel" 113 "DriverBookModel" "sShadow" "[I" ∈ mTb := tm5 (List.mem_of_getElem? (i := 173) (by decide +kernel)) (by decide +kernel)
theorem gR_RX12_113 (i : Nat) : mGetR RX12 113 12 45 i (78, i) := ⟨12, RX12, TX12, cls_12, rfl, by decide, by decide, rfl, kf_RX12_113, rfl, fun q => q⟩
theorem kf_RX12_116 : Cond.fieldLink "DriverBookModel" 116 "DriverBookModel" "sEvents" "[I" ∈ mTb := tm5 (List.mem_of_getElem? (i := 174) (by decide +kernel)) (by decide +kernel)
theorem gR_RX12_116 (i : Nat) : mGetR RX12 116 12 46 i (79, i) := ⟨12, RX12, TX12, cls_12, rfl, by decide, by decide, rfl, kf_RX12_116, rfl, fun q => q⟩
theorem kf_RX12_119 : Cond.fieldLink "DriverBookModel" 119 "DriverBookModel" "sField" "[I" ∈ mTb := tm5 (List.mem_of_getElem? (i := 175) (by decide +kernel)) (by decide +kernel)
theorem gR_RX12_119 (i : Nat) : mGetR RX12 119 12 47 i (80, i) := ⟨12, RX12, TX12, cls_12, rfl, by decide, by decide, rfl, kf_RX12_119, rfl, fun q => q⟩
theorem kf_RX12_122 : Cond.fieldLink "DriverBookModel" 122 "DriverBookModel" "sV" "[I" ∈ mTb := tm5 (List.mem_of_getElem? (i := 176) (by decide +kernel)) (by decide +kernel)
theorem gR_RX12_122 (i : Nat) : mGetR RX12 122 12 48 i (81, i) := ⟨12, RX12, TX12, cls_12, rfl, by decide, by decide, rfl, kf_RX12_122, rfl, fun q => q⟩
theorem kf_RX12_125 : Cond.fieldLink "DriverBookModel" 125 "DriverBookModel" "sTick" "[I" ∈ mTb := tm5 (List.mem_of_getElem? (i := 177) (by decide +kernel)) (by decide +kernel)
theorem gR_RX12_125 (i : Nat) : mGetR RX12 125 12 49 i (82, i) := ⟨12, RX12, TX12, cls_12, rfl, by decide, by decide, rfl, kf_RX12_125, rfl, fun q => q⟩
theorem kf_RX12_128 : Cond.fieldLink "DriverBookModel" 128 "DriverBookModel" "sBreaks" "[I" ∈ mTb := tm5 (List.mem_of_getElem? (i := 178) (by decide +kernel)) (by decide +kernel)
theorem gR_RX12_128 (i : Nat) : mGetR RX12 128 12 50 i (83, i) := ⟨12, RX12, TX12, cls_12, rfl, by decide, by decide, rfl, kf_RX12_128, rfl, fun q => q⟩
theorem kf_RX12_131 : Cond.fieldLink "DriverBookModel" 131 "DriverBookModel" "sLaw" "[I" ∈ mTb := tm5 (List.mem_of_getElem? (i := 179) (by decide +kernel)) (by decide +kernel)
theorem gR_RX12_131 (i : Nat) : mGetR RX12 131 12 51 i (84, i) := ⟨12, RX12, TX12, cls_12, rfl, by decide, by decide, rfl, kf_RX12_131, rfl, fun q => q⟩
theorem kf_RX12_134 : Cond.fieldLink "DriverBookModel" 134 "DriverBookModel" "sBreakNow" "[I" ∈ mTb := tm5 (List.mem_of_getElem? (i := 180) (by decide +kernel)) (by decide +kernel)
theorem gR_RX12_134 (i : Nat) : mGetR RX12 134 12 52 i (85, i) := ⟨12, RX12, TX12, cls_12, rfl, by decide, by decide, rfl, kf_RX12_134, rfl, fun q => q⟩
theorem kf_RX12_137 : Cond.fieldLink "DriverBookModel" 137 "DriverBookModel" "sServed" "[I" ∈ mTb := tm5 (List.mem_of_getElem? (i := 181) (by decide +kernel)) (by decide +kernel)
theorem gR_RX12_137 (i : Nat) : mGetR RX12 137 12 53 i (86, i) := ⟨12, RX12, TX12, cls_12, rfl, by decide, by decide, rfl, kf_RX12_137, rfl, fun q => q⟩
theorem kf_RX12_140 : Cond.fieldLink "DriverBookModel" 140 "DriverBookModel" "sResult" "[I" ∈ mTb := tm5 (List.mem_of_getElem? (i := 182) (by decide +kernel)) (by decide +kernel)
theorem gR_RX12_140 (i : Nat) : mGetR RX12 140 12 54 i (87, i) := ⟨12, RX12, TX12, cls_12, rfl, by decide, by decide, rfl, kf_RX12_140, rfl, fun q => q⟩
theorem kf_RX12_143 : Cond.fieldLink "DriverBookModel" 143 "DriverBookModel" "sVersion" "[I" ∈ mTb := tm5 (List.mem_of_getElem? (i := 184) (by decide +kernel)) (by decide +kernel)
theorem gR_RX12_143 (i : Nat) : mGetR RX12 143 12 56 i (88, i) := ⟨12, RX12, TX12, cls_12, rfl, by decide, by decide, rfl, kf_RX12_143, rfl, fun q => q⟩
theorem kf_RX12_146 : Cond.fieldLink "DriverBookModel" 146 "DriverBookModel" "whyWhich" "I" ∈ mTb := tm5 (List.mem_of_getElem? (i := 185) (by decide +kernel)) (by decide +kernel)
theorem gI_RX12_146 : mGetI RX12 146 12 57 := ⟨12, RX12, TX12, cls_12, rfl, by decide, by decide, rfl, by decide, kf_RX12_146⟩
theorem pI_RX12_146 : mPutI RX12 146 12 57 .int := ⟨12, RX12, TX12, cls_12, rfl, by decide, by decide, rfl, rfl, by decide, rfl, kf_RX12_146⟩
theorem kf_RX12_149 : Cond.fieldLink "DriverBookModel" 149 "DriverBookModel" "whyField" "I" ∈ mTb := tm5 (List.mem_of_getElem? (i := 186) (by decide +kernel)) (by decide +kernel)
theorem gI_RX12_149 : mGetI RX12 149 12 58 := ⟨12, RX12, TX12, cls_12, rfl, by decide, by decide, rfl, by decide, kf_RX12_149⟩
theorem pI_RX12_149 : mPutI RX12 149 12 58 .int := ⟨12, RX12, TX12, cls_12, rfl, by decide, by decide, rfl, rfl, by decide, rfl, kf_RX12_149⟩
theorem kf_RX12_152 : Cond.fieldLink "DriverBookModel" 152 "DriverBookModel" "sort" "[I" ∈ mTb := tm5 (List.mem_of_getElem? (i := 187) (by decide +kernel)) (by decide +kernel)
theorem gR_RX12_152 (i : Nat) : mGetR RX12 152 12 59 i (89, i) := ⟨12, RX12, TX12, cls_12, rfl, by decide, by decide, rfl, kf_RX12_152, rfl, fun q => q⟩
theorem kf_RX12_155 : Cond.fieldLink "DriverBookModel" 155 "DriverBookModel" "size" "[I" ∈ mTb := tm5 (List.mem_of_getElem? (i := 188) (by decide +kernel)) (by decide +kernel)
theorem gR_RX12_155 (i : Nat) : mGetR RX12 155 12 60 i (90, i) := ⟨12, RX12, TX12, cls_12, rfl, by decide, by decide, rfl, kf_RX12_155, rfl, fun q => q⟩
theorem kf_RX12_158 : Cond.fieldLink "DriverBookModel" 158 "DriverBookModel" "cells" "[J" ∈ mTb := tm5 (List.mem_of_getElem? (i := 189) (by decide +kernel)) (by decide +kernel)
theorem gR_RX12_158 (i : Nat) : mGetR RX12 158 12 61 i (91, i) := ⟨12, RX12, TX12, cls_12, rfl, by decide, by decide, rfl, kf_RX12_158, rfl, fun q => q⟩
theorem kf_RX12_162 : Cond.fieldLink "DriverBookModel" 162 "DriverBookModel" "isHit" "[Z" ∈ mTb := tm5 (List.mem_of_getElem? (i := 191) (by decide +kernel)) (by decide +kernel)
theorem gR_RX12_162 (i : Nat) : mGetR RX12 162 12 63 i (92, i) := ⟨12, RX12, TX12, cls_12, rfl, by decide, by decide, rfl, kf_RX12_162, rfl, fun q => q⟩
theorem kf_RX12_166 : Cond.fieldLink "DriverBookModel" 166 "DriverBookModel" "ops" "[I" ∈ mTb := tm5 (List.mem_of_getElem? (i := 192) (by decide +kernel)) (by decide +kernel)
theorem gR_RX12_166 (i : Nat) : mGetR RX12 166 12 64 i (93, i) := ⟨12, RX12, TX12, cls_12, rfl, by decide, by decide, rfl, kf_RX12_166, rfl, fun q => q⟩
theorem kf_RX12_169 : Cond.fieldLink "DriverBookModel" 169 "DriverBookModel" "op" "[I" ∈ mTb := tm5 (List.mem_of_getElem? (i := 193) (by decide +kernel)) (by decide +kernel)
theorem gR_RX12_169 (i : Nat) : mGetR RX12 169 12 65 i (94, i) := ⟨12, RX12, TX12, cls_12, rfl, by decide, by decide, rfl, kf_RX12_169, rfl, fun q => q⟩
theorem kf_RX12_172 : Cond.fieldLink "DriverBookModel" 172 "DriverBookModel" "acc" "[I" ∈ mTb := tm5 (List.mem_of_getElem? (i := 194) (by decide +kernel)) (by decide +kernel)
theorem gR_RX12_172 (i : Nat) : mGetR RX12 172 12 66 i (95, i) := ⟨12, RX12, TX12, cls_12, rfl, by decide, by decide, rfl, kf_RX12_172, rfl, fun q => q⟩
theorem kf_RX12_175 : Cond.fieldLink "DriverBookModel" 175 "DriverBookModel" "moved" "[J" ∈ mTb := tm5 (List.mem_of_getElem? (i := 196) (by decide +kernel)) (by decide +kernel)
theorem gR_RX12_175 (i : Nat) : mGetR RX12 175 12 68 i (96, i) := ⟨12, RX12, TX12, cls_12, rfl, by decide, by decide, rfl, kf_RX12_175, rfl, fun q => q⟩
theorem kf_RX12_178 : Cond.fieldLink "DriverBookModel" 178 "DriverBookModel" "thrown" "I" ∈ mTb := tm5 (List.mem_of_getElem? (i := 128) (by decide +kernel)) (by decide +kernel)
theorem gI_RX12_178 : mGetI RX12 178 12 0 := ⟨12, RX12, TX12, cls_12, rfl, by decide, by decide, rfl, by decide, kf_RX12_178⟩
theorem pI_RX12_178 : mPutI RX12 178 12 0 .int := ⟨12, RX12, TX12, cls_12, rfl, by decide, by decide, rfl, rfl, by decide, rfl, kf_RX12_178⟩
theorem kf_RX12_181 : Cond.fieldLink "DriverBookModel" 181 "DriverBookModel" "fields" "I" ∈ mTb := tm5 (List.mem_of_getElem? (i := 130) (by decide +kernel)) (by decide +kernel)
theorem gI_RX12_181 : mGetI RX12 181 12 2 := ⟨12, RX12, TX12, cls_12, rfl, by decide, by decide, rfl, by decide, kf_RX12_181⟩
theorem pI_RX12_181 : mPutI RX12 181 12 2 .int := ⟨12, RX12, TX12, cls_12, rfl, by decide, by decide, rfl, rfl, by decide, rfl, kf_RX12_181⟩
theorem kf_RX12_188 : Cond.fieldLink "DriverBookModel" 188 "DriverBookModel" "acts" "I" ∈ mTb := tm5 (List.mem_of_getElem? (i := 144) (by decide +kernel)) (by decide +kernel)
theorem gI_RX12_188 : mGetI RX12 188 12 16 := ⟨12, RX12, TX12, cls_12, rfl, by decide, by decide, rfl, by decide, kf_RX12_188⟩
theorem pI_RX12_188 : mPutI RX12 188 12 16 .int := ⟨12, RX12, TX12, cls_12, rfl, by decide, by decide, rfl, rfl, by decide, rfl, kf_RX12_188⟩
theorem kf_RX12_195 : Cond.fieldLink "DriverBookModel" 195 "DriverBookModel" "refusals" "I" ∈ mTb := tm5 (List.mem_of_getElem? (i := 190) (by decide +kernel)) (by decide +kernel)
theorem gI_RX12_195 : mGetI RX12 195 12 62 := ⟨12, RX12, TX12, cls_12, rfl, by decide, by decide, rfl, by decide, kf_RX12_195⟩
theorem pI_RX12_195 : mPutI RX12 195 12 62 .int := ⟨12, RX12, TX12, cls_12, rfl, by decide, by decide, rfl, rfl, by decide, rfl, kf_RX12_195⟩
theorem kf_RX12_198 : Cond.fieldLink "DriverBookModel" 198 "DriverBookModel" "now" "I" ∈ mTb := tm5 (List.mem_of_getElem? (i := 151) (by decide +kernel)) (by decide +kernel)
theorem gI_RX12_198 : mGetI RX12 198 12 23 := ⟨12, RX12, TX12, cls_12, rfl, by decide, by decide, rfl, by decide, kf_RX12_198⟩
theorem pI_RX12_198 : mPutI RX12 198 12 23 .int := ⟨12, RX12, TX12, cls_12, rfl, by decide, by decide, rfl, rfl, by decide, rfl, kf_RX12_198⟩
theorem kf_RX12_201 : Cond.fieldLink "DriverBookModel" 201 "DriverBookModel" "events" "I" ∈ mTb := tm5 (List.mem_of_getElem? (i := 158) (by decide +kernel)) (by decide +kernel)
theorem gI_RX12_201 : mGetI RX12 201 12 30 := ⟨12, RX12, TX12, cls_12, rfl, by decide, by decide, rfl, by decide, kf_RX12_201⟩
theorem pI_RX12_201 : mPutI RX12 201 12 30 .int := ⟨12, RX12, TX12, cls_12, rfl, by decide, by decide, rfl, rfl, by decide, rfl, kf_RX12_201⟩
theorem kf_RX12_204 : Cond.fieldLink "DriverBookModel" 204 "DriverBookModel" "breaks" "I" ∈ mTb := tm5 (List.mem_of_getElem? (i := 162) (by decide +kernel)) (by decide +kernel)
theorem gI_RX12_204 : mGetI RX12 204 12 34 := ⟨12, RX12, TX12, cls_12, rfl, by decide, by decide, rfl, by decide, kf_RX12_204⟩
theorem pI_RX12_204 : mPutI RX12 204 12 34 .int := ⟨12, RX12, TX12, cls_12, rfl, by decide, by decide, rfl, rfl, by decide, rfl, kf_RX12_204⟩
theorem kf_RX12_207 : Cond.fieldLink "DriverBookModel" 207 "DriverBookModel" "breakLaw" "I" ∈ mTb := tm5 (List.mem_of_getElem? (i := 163) (by decide +kernel)) (by decide +kernel)
theorem gI_RX12_207 : mGetI RX12 207 12 35 := ⟨12, RX12, TX12, cls_12, rfl, by decide, by decide, rfl, by decide, kf_RX12_207⟩
theorem pI_RX12_207 : mPutI RX12 207 12 35 .int := ⟨12, RX12, TX12, cls_12, rfl, by decide, by decide, rfl, rfl, by decide, rfl, kf_RX12_207⟩
theorem kf_RX12_210 : Cond.fieldLink "DriverBookModel" 210 "DriverBookModel" "breakNow" "I" ∈ mTb := tm5 (List.mem_of_getElem? (i := 164) (by decide +kernel)) (by decide +kernel)
theorem gI_RX12_210 : mGetI RX12 210 12 36 := ⟨12, RX12, TX12, cls_12, rfl, by decide, by decide, rfl, by decide, kf_RX12_210⟩
theorem pI_RX12_210 : mPutI RX12 210 12 36 .int := ⟨12, RX12, TX12, cls_12, rfl, by decide, by decide, rfl, rfl, by decide, rfl, kf_RX12_210⟩
theorem kf_RX12_213 : Cond.fieldLink "DriverBookModel" 213 "DriverBookModel" "served" "I" ∈ mTb := tm5 (List.mem_of_getElem? (i := 165) (by decide +kernel)) (by decide +kernel)
theorem gI_RX12_213 : mGetI RX12 213 12 37 := ⟨12, RX12, TX12, cls_12, rfl, by decide, by decide, rfl, by decide, kf_RX12_213⟩
theorem pI_RX12_213 : mPutI RX12 213 12 37 .int := ⟨12, RX12, TX12, cls_12, rfl, by decide, by decide, rfl, rfl, by decide, rfl, kf_RX12_213⟩
theorem kf_RX12_216 : Cond.fieldLink "DriverBookModel" 216 "DriverBookModel" "result" "I" ∈ mTb := tm5 (List.mem_of_getElem? (i := 166) (by decide +kernel)) (by decide +kernel)
theorem gI_RX12_216 : mGetI RX12 216 12 38 := ⟨12, RX12, TX12, cls_12, rfl, by decide, by decide, rfl, by decide, kf_RX12_216⟩
theorem pI_RX12_216 : mPutI RX12 216 12 38 .int := ⟨12, RX12, TX12, cls_12, rfl, by decide, by decide, rfl, rfl, by decide, rfl, kf_RX12_216⟩
theorem kf_RX12_219 : Cond.fieldLink "DriverBookModel" 219 "DriverBookModel" "version" "I" ∈ mTb := tm5 (List.mem_of_getElem? (i := 183) (by decide +kernel)) (by decide +kernel)
theorem gI_RX12_219 : mGetI RX12 219 12 55 := ⟨12, RX12, TX12, cls_12, rfl, by decide, by decide, rfl, by decide, kf_RX12_219⟩
theorem pI_RX12_219 : mPutI RX12 219 12 55 .int := ⟨12, RX12, TX12, cls_12, rfl, by decide, by decide, rfl, rfl, by decide, rfl, kf_RX12_219⟩
theorem kf_RX12_225 : Cond.fieldLink "DriverBookModel" 225 "DriverBookModel" "laws" "I" ∈ mTb := tm5 (List.mem_of_getElem? (i := 139) (by decide +kernel)) (by decide +kernel)
theorem gI_RX12_225 : mGetI RX12 225 12 11 := ⟨12, RX12, TX12, cls_12, rfl, by decide, by decide, rfl, by decide, kf_RX12_225⟩
theorem pI_RX12_225 : mPutI RX12 225 12 11 .int := ⟨12, RX12, TX12, cls_12, rfl, by decide, by decide, rfl, rfl, by decide, rfl, kf_RX12_225⟩
theorem kf_RX12_292 : Cond.fieldLink "DriverBookModel" 292 "DriverBookModel" "isLocked" "Z" ∈ mTb := tm5 (List.mem_of_getElem? (i := 195) (by decide +kernel)) (by decide +kernel)
theorem gI_RX12_292 : mGetI RX12 292 12 67 := ⟨12, RX12, TX12, cls_12, rfl, by decide, by decide, rfl, by decide, kf_RX12_292⟩
theorem pI_RX12_292 : mPutI RX12 292 12 67 .boolean := ⟨12, RX12, TX12, cls_12, rfl, by decide, by decide, rfl, rfl, by decide, rfl, kf_RX12_292⟩
theorem km_RX11_313 : mAc RX11 313 := ⟨tm5 (List.mem_of_getElem? (i := 90) (by decide +kernel)) (by decide +kernel), tm4 (List.mem_of_getElem? (i := 154) (by decide +kernel)) (by decide +kernel), tm4 (List.mem_of_getElem? (i := 153) (by decide +kernel)) (by decide +kernel), tm1 (List.mem_of_getElem? (i := 16) (by decide +kernel)) (by decide +kernel)⟩
theorem kmn_RX11_330 : mMn RX11 330 := ⟨tm4 (List.mem_of_getElem? (i := 106) (by decide +kernel)) (by decide +kernel), tm4 (List.mem_of_getElem? (i := 107) (by decide +kernel)) (by decide +kernel), tm1 (List.mem_of_getElem? (i := 15) (by decide +kernel)) (by decide +kernel), tm4 (List.mem_of_getElem? (i := 108) (by decide +kernel)) (by decide +kernel)⟩
theorem km_RX8_74 : mAc RX8 74 := ⟨tm4 (List.mem_of_getElem? (i := 152) (by decide +kernel)) (by decide +kernel), tm4 (List.mem_of_getElem? (i := 154) (by decide +kernel)) (by decide +kernel), tm4 (List.mem_of_getElem? (i := 153) (by decide +kernel)) (by decide +kernel), tm1 (List.mem_of_getElem? (i := 16) (by decide +kernel)) (by decide +kernel)⟩
theorem me_J7_fill_53178 : mMe yJ7_fill_53178 cJ7_fill_53178 4 none 2 := ⟨tm3 (List.mem_of_getElem? (i := 38) (by decide +kernel)) (by decide +kernel), tm1 (List.mem_of_getElem? (i := 8) (by decide +kernel)) (by decide +kernel), by decide +kernel, by decide +kernel, by decide +kernel⟩
theorem me_J7_fill_d0a16 : mMe yJ7_fill_d0a16 cJ7_fill_d0a16 5 none 2 := ⟨tm2 (List.mem_of_getElem? (i := 5) (by decide +kernel)) (by decide +kernel), tm1 (List.mem_of_getElem? (i := 8) (by decide +kernel)) (by decide +kernel), by decide +kernel, by decide +kernel, by decide +kernel⟩
theorem me_X0_append : mMe yX0_append cX0_append 5 (some .int) 4 := ⟨tm3 (List.mem_of_getElem? (i := 125) (by decide +kernel)) (by decide +kernel), tm1 (List.mem_of_getElem? (i := 5) (by decide +kernel)) (by decide +kernel), by decide +kernel, by decide +kernel, by decide +kernel⟩
theorem mi_X0_append : Cond.instanceMethod yX0_append ∈ mTb := tm3 (List.mem_of_getElem? (i := 123) (by decide +kernel)) (by decide +kernel)
theorem ms_X0_append : Cond.selects yX0_append.cls yX0_append yX0_append ∈ mTb := tm3 (List.mem_of_getElem? (i := 124) (by decide +kernel)) (by decide +kernel)
theorem me_X0_lastSet : mMe yX0_lastSet cX0_lastSet 3 (some .int) 1 := ⟨tm4 (List.mem_of_getElem? (i := 168) (by decide +kernel)) (by decide +kernel), tm1 (List.mem_of_getElem? (i := 5) (by decide +kernel)) (by decide +kernel), by decide +kernel, by decide +kernel, by decide +kernel⟩
theorem mi_X0_lastSet : Cond.instanceMethod yX0_lastSet ∈ mTb := tm4 (List.mem_of_getElem? (i := 166) (by decide +kernel)) (by decide +kernel)
theorem ms_X0_lastSet : Cond.selects yX0_lastSet.cls yX0_lastSet yX0_lastSet ∈ mTb := tm4 (List.mem_of_getElem? (i := 167) (by decide +kernel)) (by decide +kernel)
theorem me_X10_brokenRule : mMe yX10_brokenRule cX10_brokenRule 3 (some .int) 2 := ⟨tm4 (List.mem_of_getElem? (i := 177) (by decide +kernel)) (by decide +kernel), tm1 (List.mem_of_getElem? (i := 12) (by decide +kernel)) (by decide +kernel), by decide +kernel, by decide +kernel, by decide +kernel⟩
theorem mi_X10_brokenRule : Cond.instanceMethod yX10_brokenRule ∈ mTb := tm4 (List.mem_of_getElem? (i := 176) (by decide +kernel)) (by decide +kernel)
theorem ms_X10_brokenRule : Cond.selects yX10_brokenRule.cls yX10_brokenRule yX10_brokenRule ∈ mTb := tmp_ (i := 23) (by decide +kernel)
theorem me_X10_firstUnwell : mMe yX10_firstUnwell cX10_firstUnwell 8 (some .int) 2 := ⟨tm4 (List.mem_of_getElem? (i := 158) (by decide +kernel)) (by decide +kernel), tm1 (List.mem_of_getElem? (i := 12) (by decide +kernel)) (by decide +kernel), by decide +kernel, by decide +kernel, by decide +kernel⟩
theorem mi_X10_firstUnwell : Cond.instanceMethod yX10_firstUnwell ∈ mTb := tm4 (List.mem_of_getElem? (i := 156) (by decide +kernel)) (by decide +kernel)
theorem ms_X10_firstUnwell : Cond.selects yX10_firstUnwell.cls yX10_firstUnwell yX10_firstUnwell ∈ mTb := tm4 (List.mem_of_getElem? (i := 157) (by decide +kernel)) (by decide +kernel)
theorem me_X10_forget : mMe yX10_forget cX10_forget 1 none 0 := ⟨tm3 (List.mem_of_getElem? (i := 27) (by decide +kernel)) (by decide +kernel), tm1 (List.mem_of_getElem? (i := 12) (by decide +kernel)) (by decide +kernel), by decide +kernel, by decide +kernel, by decide +kernel⟩
theorem mi_X10_forget : Cond.instanceMethod yX10_forget ∈ mTb := tm3 (List.mem_of_getElem? (i := 25) (by decide +kernel)) (by decide +kernel)
theorem ms_X10_forget : Cond.selects yX10_forget.cls yX10_forget yX10_forget ∈ mTb := tm3 (List.mem_of_getElem? (i := 26) (by decide +kernel)) (by decide +kernel)
theorem me_X10_isRight : mMe yX10_isRight cX10_isRight 4 (some .boolean) 1 := ⟨tm4 (List.mem_of_getElem? (i := 186) (by decide +kernel)) (by decide +kernel), tm1 (List.mem_of_getElem? (i := 12) (by decide +kernel)) (by decide +kernel), by decide +kernel, by decide +kernel, by decide +kernel⟩
theorem mi_X10_isRight : Cond.instanceMethod yX10_isRight ∈ mTb := tm4 (List.mem_of_getElem? (i := 185) (by decide +kernel)) (by decide +kernel)
theorem ms_X10_isRight : Cond.selects yX10_isRight.cls yX10_isRight yX10_isRight ∈ mTb := tmp_ (i := 25) (by decide +kernel)
theorem me_X10_keepStart : mMe yX10_keepStart cX10_keepStart 1 none 0 := ⟨tm4 (List.mem_of_getElem? (i := 147) (by decide +kernel)) (by decide +kernel), tm1 (List.mem_of_getElem? (i := 12) (by decide +kernel)) (by decide +kernel), by decide +kernel, by decide +kernel, by decide +kernel⟩
theorem mi_X10_keepStart : Cond.instanceMethod yX10_keepStart ∈ mTb := tm4 (List.mem_of_getElem? (i := 145) (by decide +kernel)) (by decide +kernel)
theorem ms_X10_keepStart : Cond.selects yX10_keepStart.cls yX10_keepStart yX10_keepStart ∈ mTb := tm4 (List.mem_of_getElem? (i := 146) (by decide +kernel)) (by decide +kernel)
theorem me_X10_noteSets : mMe yX10_noteSets cX10_noteSets 4 none 2 := ⟨tm4 (List.mem_of_getElem? (i := 164) (by decide +kernel)) (by decide +kernel), tm1 (List.mem_of_getElem? (i := 12) (by decide +kernel)) (by decide +kernel), by decide +kernel, by decide +kernel, by decide +kernel⟩
theorem mi_X10_noteSets : Cond.instanceMethod yX10_noteSets ∈ mTb := tm4 (List.mem_of_getElem? (i := 163) (by decide +kernel)) (by decide +kernel)
theorem ms_X10_noteSets : Cond.selects yX10_noteSets.cls yX10_noteSets yX10_noteSets ∈ mTb := tmp_ (i := 22) (by decide +kernel)
theorem me_X10_restoreStart : mMe yX10_restoreStart cX10_restoreStart 1 none 0 := ⟨tm4 (List.mem_of_getElem? (i := 172) (by decide +kernel)) (by decide +kernel), tm1 (List.mem_of_getElem? (i := 12) (by decide +kernel)) (by decide +kernel), by decide +kernel, by decide +kernel, by decide +kernel⟩
theorem mi_X10_restoreStart : Cond.instanceMethod yX10_restoreStart ∈ mTb := tm4 (List.mem_of_getElem? (i := 170) (by decide +kernel)) (by decide +kernel)
theorem ms_X10_restoreStart : Cond.selects yX10_restoreStart.cls yX10_restoreStart yX10_restoreStart ∈ mTb := tm4 (List.mem_of_getElem? (i := 171) (by decide +kernel)) (by decide +kernel)
theorem me_X10_wrongField : mMe yX10_wrongField cX10_wrongField 2 (some .int) 0 := ⟨tm4 (List.mem_of_getElem? (i := 181) (by decide +kernel)) (by decide +kernel), tm1 (List.mem_of_getElem? (i := 12) (by decide +kernel)) (by decide +kernel), by decide +kernel, by decide +kernel, by decide +kernel⟩
theorem mi_X10_wrongField : Cond.instanceMethod yX10_wrongField ∈ mTb := tm4 (List.mem_of_getElem? (i := 180) (by decide +kernel)) (by decide +kernel)
theorem ms_X10_wrongField : Cond.selects yX10_wrongField.cls yX10_wrongField yX10_wrongField ∈ mTb := tmp_ (i := 24) (by decide +kernel)
theorem me_X11_allowsStep : mMe yX11_allowsStep cX11_allowsStep 2 (some .boolean) 2 := ⟨tm3 (List.mem_of_getElem? (i := 117) (by decide +kernel)) (by decide +kernel), tm1 (List.mem_of_getElem? (i := 1) (by decide +kernel)) (by decide +kernel), by decide +kernel, by decide +kernel, by decide +kernel⟩
theorem me_X11_fits : mMe yX11_fits cX11_fits 2 (some .boolean) 2 := ⟨tm3 (List.mem_of_getElem? (i := 58) (by decide +kernel)) (by decide +kernel), tm1 (List.mem_of_getElem? (i := 1) (by decide +kernel)) (by decide +kernel), by decide +kernel, by decide +kernel, by decide +kernel⟩
theorem me_X11_hostRefuses : mMe yX11_hostRefuses cX11_hostRefuses 2 (some .int) 1 := ⟨tm4 (List.mem_of_getElem? (i := 202) (by decide +kernel)) (by decide +kernel), tm1 (List.mem_of_getElem? (i := 1) (by decide +kernel)) (by decide +kernel), by decide +kernel, by decide +kernel, by decide +kernel⟩
theorem mi_X11_hostRefuses : Cond.instanceMethod yX11_hostRefuses ∈ mTb := tm4 (List.mem_of_getElem? (i := 201) (by decide +kernel)) (by decide +kernel)
theorem ms_X11_hostRefuses : Cond.selects yX11_hostRefuses.cls yX11_hostRefuses yX11_hostRefuses ∈ mTb := tmp_ (i := 26) (by decide +kernel)
theorem me_X11_isIn : mMe yX11_isIn cX11_isIn 2 (some .boolean) 2 := ⟨tm3 (List.mem_of_getElem? (i := 168) (by decide +kernel)) (by decide +kernel), tm1 (List.mem_of_getElem? (i := 1) (by decide +kernel)) (by decide +kernel), by decide +kernel, by decide +kernel, by decide +kernel⟩
theorem me_X11_isStepNumber : mMe yX11_isStepNumber cX11_isStepNumber 4 (some .boolean) 3 := ⟨tm3 (List.mem_of_getElem? (i := 114) (by decide +kernel)) (by decide +kernel), tm1 (List.mem_of_getElem? (i := 1) (by decide +kernel)) (by decide +kernel), by decide +kernel, by decide +kernel, by decide +kernel⟩
theorem mi_X11_isStepNumber : Cond.instanceMethod yX11_isStepNumber ∈ mTb := tm3 (List.mem_of_getElem? (i := 113) (by decide +kernel)) (by decide +kernel)
theorem ms_X11_isStepNumber : Cond.selects yX11_isStepNumber.cls yX11_isStepNumber yX11_isStepNumber ∈ mTb := tmp_ (i := 1) (by decide +kernel)
theorem me_X11_isTape : mMe yX11_isTape cX11_isTape 1 (some .boolean) 1 := ⟨tm4 (List.mem_of_getElem? (i := 198) (by decide +kernel)) (by decide +kernel), tm1 (List.mem_of_getElem? (i := 1) (by decide +kernel)) (by decide +kernel), by decide +kernel, by decide +kernel, by decide +kernel⟩
theorem me_X11_nearestInt : mMe yX11_nearestInt cX11_nearestInt 2 (some .int) 1 := ⟨tm4 (List.mem_of_getElem? (i := 104) (by decide +kernel)) (by decide +kernel), tm1 (List.mem_of_getElem? (i := 1) (by decide +kernel)) (by decide +kernel), by decide +kernel, by decide +kernel, by decide +kernel⟩
theorem me_X12_astray : mMe yX12_astray cX12_astray 10 (some .int) 2 := ⟨tm7 (List.mem_of_getElem? (i := 92) (by decide +kernel)) (by decide +kernel), tm1 (List.mem_of_getElem? (i := 14) (by decide +kernel)) (by decide +kernel), by decide +kernel, by decide +kernel, by decide +kernel⟩
theorem mi_X12_astray : Cond.instanceMethod yX12_astray ∈ mTb := tm7 (List.mem_of_getElem? (i := 91) (by decide +kernel)) (by decide +kernel)
theorem ms_X12_astray : Cond.selects yX12_astray.cls yX12_astray yX12_astray ∈ mTb := tmp_ (i := 61) (by decide +kernel)
theorem me_X12_bitsOf : mMe yX12_bitsOf cX12_bitsOf 3 (some .int) 2 := ⟨tm7 (List.mem_of_getElem? (i := 23) (by decide +kernel)) (by decide +kernel), tm1 (List.mem_of_getElem? (i := 14) (by decide +kernel)) (by decide +kernel), by decide +kernel, by decide +kernel, by decide +kernel⟩
theorem mi_X12_bitsOf : Cond.instanceMethod yX12_bitsOf ∈ mTb := tm7 (List.mem_of_getElem? (i := 22) (by decide +kernel)) (by decide +kernel)
theorem ms_X12_bitsOf : Cond.selects yX12_bitsOf.cls yX12_bitsOf yX12_bitsOf ∈ mTb := tmp_ (i := 52) (by decide +kernel)
theorem me_X12_brings : mMe yX12_brings cX12_brings 3 none 1 := ⟨tm7 (List.mem_of_getElem? (i := 84) (by decide +kernel)) (by decide +kernel), tm1 (List.mem_of_getElem? (i := 14) (by decide +kernel)) (by decide +kernel), by decide +kernel, by decide +kernel, by decide +kernel⟩
theorem mi_X12_brings : Cond.instanceMethod yX12_brings ∈ mTb := tm7 (List.mem_of_getElem? (i := 83) (by decide +kernel)) (by decide +kernel)
theorem ms_X12_brings : Cond.selects yX12_brings.cls yX12_brings yX12_brings ∈ mTb := tmp_ (i := 59) (by decide +kernel)
theorem me_X12_changed : mMe yX12_changed cX12_changed 1 none 0 := ⟨tm6 (List.mem_of_getElem? (i := 107) (by decide +kernel)) (by decide +kernel), tm1 (List.mem_of_getElem? (i := 14) (by decide +kernel)) (by decide +kernel), by decide +kernel, by decide +kernel, by decide +kernel⟩
theorem mi_X12_changed : Cond.instanceMethod yX12_changed ∈ mTb := tm6 (List.mem_of_getElem? (i := 106) (by decide +kernel)) (by decide +kernel)
theorem ms_X12_changed : Cond.selects yX12_changed.cls yX12_changed yX12_changed ∈ mTb := tmp_ (i := 28) (by decide +kernel)
theorem me_X12_comes : mMe yX12_comes cX12_comes 4 none 3 := ⟨tm6 (List.mem_of_getElem? (i := 219) (by decide +kernel)) (by decide +kernel), tm1 (List.mem_of_getElem? (i := 14) (by decide +kernel)) (by decide +kernel), by decide +kernel, by decide +kernel, by decide +kernel⟩
theorem mi_X12_comes : Cond.instanceMethod yX12_comes ∈ mTb := tm6 (List.mem_of_getElem? (i := 218) (by decide +kernel)) (by decide +kernel)
theorem ms_X12_comes : Cond.selects yX12_comes.cls yX12_comes yX12_comes ∈ mTb := tmp_ (i := 42) (by decide +kernel)
theorem me_X12_emit : mMe yX12_emit cX12_emit 9 none 7 := ⟨tm6 (List.mem_of_getElem? (i := 195) (by decide +kernel)) (by decide +kernel), tm1 (List.mem_of_getElem? (i := 14) (by decide +kernel)) (by decide +kernel), by decide +kernel, by decide +kernel, by decide +kernel⟩
theorem mi_X12_emit : Cond.instanceMethod yX12_emit ∈ mTb := tm6 (List.mem_of_getElem? (i := 194) (by decide +kernel)) (by decide +kernel)
theorem ms_X12_emit : Cond.selects yX12_emit.cls yX12_emit yX12_emit ∈ mTb := tmp_ (i := 40) (by decide +kernel)
theorem me_X12_fails : mMe yX12_fails cX12_fails 5 (some .int) 4 := ⟨tm7 (List.mem_of_getElem? (i := 88) (by decide +kernel)) (by decide +kernel), tm1 (List.mem_of_getElem? (i := 14) (by decide +kernel)) (by decide +kernel), by decide +kernel, by decide +kernel, by decide +kernel⟩
theorem mi_X12_fails : Cond.instanceMethod yX12_fails ∈ mTb := tm7 (List.mem_of_getElem? (i := 87) (by decide +kernel)) (by decide +kernel)
theorem ms_X12_fails : Cond.selects yX12_fails.cls yX12_fails yX12_fails ∈ mTb := tmp_ (i := 60) (by decide +kernel)
theorem me_X12_flagUp : mMe yX12_flagUp cX12_flagUp 2 (some .int) 0 := ⟨tm6 (List.mem_of_getElem? (i := 235) (by decide +kernel)) (by decide +kernel), tm1 (List.mem_of_getElem? (i := 14) (by decide +kernel)) (by decide +kernel), by decide +kernel, by decide +kernel, by decide +kernel⟩
theorem mi_X12_flagUp : Cond.instanceMethod yX12_flagUp ∈ mTb := tm6 (List.mem_of_getElem? (i := 234) (by decide +kernel)) (by decide +kernel)
theorem ms_X12_flagUp : Cond.selects yX12_flagUp.cls yX12_flagUp yX12_flagUp ∈ mTb := tmp_ (i := 45) (by decide +kernel)
theorem me_X12_groups : mMe yX12_groups cX12_groups 11 none 3 := ⟨tm6 (List.mem_of_getElem? (i := 187) (by decide +kernel)) (by decide +kernel), tm1 (List.mem_of_getElem? (i := 14) (by decide +kernel)) (by decide +kernel), by decide +kernel, by decide +kernel, by decide +kernel⟩
theorem mi_X12_groups : Cond.instanceMethod yX12_groups ∈ mTb := tm6 (List.mem_of_getElem? (i := 186) (by decide +kernel)) (by decide +kernel)
theorem ms_X12_groups : Cond.selects yX12_groups.cls yX12_groups yX12_groups ∈ mTb := tmp_ (i := 38) (by decide +kernel)
theorem me_X12_handles : mMe yX12_handles cX12_handles 6 none 1 := ⟨tm6 (List.mem_of_getElem? (i := 231) (by decide +kernel)) (by decide +kernel), tm1 (List.mem_of_getElem? (i := 14) (by decide +kernel)) (by decide +kernel), by decide +kernel, by decide +kernel, by decide +kernel⟩
theorem mi_X12_handles : Cond.instanceMethod yX12_handles ∈ mTb := tm6 (List.mem_of_getElem? (i := 230) (by decide +kernel)) (by decide +kernel)
theorem ms_X12_handles : Cond.selects yX12_handles.cls yX12_handles yX12_handles ∈ mTb := tmp_ (i := 44) (by decide +kernel)
theorem me_X12_hasHandler : mMe yX12_hasHandler cX12_hasHandler 3 (some .boolean) 0 := ⟨tm6 (List.mem_of_getElem? (i := 199) (by decide +kernel)) (by decide +kernel), tm1 (List.mem_of_getElem? (i := 14) (by decide +kernel)) (by decide +kernel), by decide +kernel, by decide +kernel, by decide +kernel⟩
theorem mi_X12_hasHandler : Cond.instanceMethod yX12_hasHandler ∈ mTb := tm6 (List.mem_of_getElem? (i := 198) (by decide +kernel)) (by decide +kernel)
theorem ms_X12_hasHandler : Cond.selects yX12_hasHandler.cls yX12_hasHandler yX12_hasHandler ∈ mTb := tmp_ (i := 41) (by decide +kernel)
theorem me_X12_hits : mMe yX12_hits cX12_hits 5 (some .boolean) 3 := ⟨tm7 (List.mem_of_getElem? (i := 19) (by decide +kernel)) (by decide +kernel), tm1 (List.mem_of_getElem? (i := 14) (by decide +kernel)) (by decide +kernel), by decide +kernel, by decide +kernel, by decide +kernel⟩
theorem mi_X12_hits : Cond.instanceMethod yX12_hits ∈ mTb := tm7 (List.mem_of_getElem? (i := 18) (by decide +kernel)) (by decide +kernel)
theorem ms_X12_hits : Cond.selects yX12_hits.cls yX12_hits yX12_hits ∈ mTb := tmp_ (i := 51) (by decide +kernel)
theorem me_X12_in : mMe yX12_in cX12_in 3 (some .boolean) 3 := ⟨tm6 (List.mem_of_getElem? (i := 103) (by decide +kernel)) (by decide +kernel), tm1 (List.mem_of_getElem? (i := 14) (by decide +kernel)) (by decide +kernel), by decide +kernel, by decide +kernel, by decide +kernel⟩
theorem me_X12_isAct : mMe yX12_isAct cX12_isAct 2 (some .boolean) 1 := ⟨tm6 (List.mem_of_getElem? (i := 155) (by decide +kernel)) (by decide +kernel), tm1 (List.mem_of_getElem? (i := 14) (by decide +kernel)) (by decide +kernel), by decide +kernel, by decide +kernel, by decide +kernel⟩
theorem mi_X12_isAct : Cond.instanceMethod yX12_isAct ∈ mTb := tm6 (List.mem_of_getElem? (i := 154) (by decide +kernel)) (by decide +kernel)
theorem ms_X12_isAct : Cond.selects yX12_isAct.cls yX12_isAct yX12_isAct ∈ mTb := tmp_ (i := 34) (by decide +kernel)
theorem me_X12_isBound : mMe yX12_isBound cX12_isBound 5 (some .boolean) 2 := ⟨tm6 (List.mem_of_getElem? (i := 183) (by decide +kernel)) (by decide +kernel), tm1 (List.mem_of_getElem? (i := 14) (by decide +kernel)) (by decide +kernel), by decide +kernel, by decide +kernel, by decide +kernel⟩
theorem mi_X12_isBound : Cond.instanceMethod yX12_isBound ∈ mTb := tm6 (List.mem_of_getElem? (i := 182) (by decide +kernel)) (by decide +kernel)
theorem ms_X12_isBound : Cond.selects yX12_isBound.cls yX12_isBound yX12_isBound ∈ mTb := tmp_ (i := 37) (by decide +kernel)
theorem me_X12_isBroken : mMe yX12_isBroken cX12_isBroken 3 (some .boolean) 1 := ⟨tm7 (List.mem_of_getElem? (i := 27) (by decide +kernel)) (by decide +kernel), tm1 (List.mem_of_getElem? (i := 14) (by decide +kernel)) (by decide +kernel), by decide +kernel, by decide +kernel, by decide +kernel⟩
theorem mi_X12_isBroken : Cond.instanceMethod yX12_isBroken ∈ mTb := tm7 (List.mem_of_getElem? (i := 26) (by decide +kernel)) (by decide +kernel)
theorem ms_X12_isBroken : Cond.selects yX12_isBroken.cls yX12_isBroken yX12_isBroken ∈ mTb := tmp_ (i := 53) (by decide +kernel)
theorem me_X12_isField : mMe yX12_isField cX12_isField 2 (some .boolean) 1 := ⟨tm6 (List.mem_of_getElem? (i := 135) (by decide +kernel)) (by decide +kernel), tm1 (List.mem_of_getElem? (i := 14) (by decide +kernel)) (by decide +kernel), by decide +kernel, by decide +kernel, by decide +kernel⟩
theorem mi_X12_isField : Cond.instanceMethod yX12_isField ∈ mTb := tm6 (List.mem_of_getElem? (i := 134) (by decide +kernel)) (by decide +kernel)
theorem ms_X12_isField : Cond.selects yX12_isField.cls yX12_isField yX12_isField ∈ mTb := tmp_ (i := 33) (by decide +kernel)
theorem me_X12_isRegister : mMe yX12_isRegister cX12_isRegister 2 (some .boolean) 1 := ⟨tm6 (List.mem_of_getElem? (i := 119) (by decide +kernel)) (by decide +kernel), tm1 (List.mem_of_getElem? (i := 14) (by decide +kernel)) (by decide +kernel), by decide +kernel, by decide +kernel, by decide +kernel⟩
theorem mi_X12_isRegister : Cond.instanceMethod yX12_isRegister ∈ mTb := tm6 (List.mem_of_getElem? (i := 118) (by decide +kernel)) (by decide +kernel)
theorem ms_X12_isRegister : Cond.selects yX12_isRegister.cls yX12_isRegister yX12_isRegister ∈ mTb := tmp_ (i := 30) (by decide +kernel)
theorem me_X12_isShadowed : mMe yX12_isShadowed cX12_isShadowed 4 (some .boolean) 1 := ⟨tm6 (List.mem_of_getElem? (i := 191) (by decide +kernel)) (by decide +kernel), tm1 (List.mem_of_getElem? (i := 14) (by decide +kernel)) (by decide +kernel), by decide +kernel, by decide +kernel, by decide +kernel⟩
theorem mi_X12_isShadowed : Cond.instanceMethod yX12_isShadowed ∈ mTb := tm6 (List.mem_of_getElem? (i := 190) (by decide +kernel)) (by decide +kernel)
theorem ms_X12_isShadowed : Cond.selects yX12_isShadowed.cls yX12_isShadowed yX12_isShadowed ∈ mTb := tmp_ (i := 39) (by decide +kernel)
theorem me_X12_isTape : mMe yX12_isTape cX12_isTape 1 (some .boolean) 1 := ⟨tm7 (List.mem_of_getElem? (i := 107) (by decide +kernel)) (by decide +kernel), tm1 (List.mem_of_getElem? (i := 14) (by decide +kernel)) (by decide +kernel), by decide +kernel, by decide +kernel, by decide +kernel⟩
theorem me_X12_joins : mMe yX12_joins cX12_joins 5 (some .boolean) 2 := ⟨tm6 (List.mem_of_getElem? (i := 179) (by decide +kernel)) (by decide +kernel), tm1 (List.mem_of_getElem? (i := 14) (by decide +kernel)) (by decide +kernel), by decide +kernel, by decide +kernel, by decide +kernel⟩
theorem mi_X12_joins : Cond.instanceMethod yX12_joins ∈ mTb := tm6 (List.mem_of_getElem? (i := 178) (by decide +kernel)) (by decide +kernel)
theorem ms_X12_joins : Cond.selects yX12_joins.cls yX12_joins yX12_joins ∈ mTb := tmp_ (i := 36) (by decide +kernel)
theorem me_X12_judges : mMe yX12_judges cX12_judges 4 none 2 := ⟨tm7 (List.mem_of_getElem? (i := 15) (by decide +kernel)) (by decide +kernel), tm1 (List.mem_of_getElem? (i := 14) (by decide +kernel)) (by decide +kernel), by decide +kernel, by decide +kernel, by decide +kernel⟩
theorem mi_X12_judges : Cond.instanceMethod yX12_judges ∈ mTb := tm7 (List.mem_of_getElem? (i := 14) (by decide +kernel)) (by decide +kernel)
theorem ms_X12_judges : Cond.selects yX12_judges.cls yX12_judges yX12_judges ∈ mTb := tmp_ (i := 50) (by decide +kernel)
theorem me_X12_lacks : mMe yX12_lacks cX12_lacks 2 (some .int) 1 := ⟨tm7 (List.mem_of_getElem? (i := 123) (by decide +kernel)) (by decide +kernel), tm1 (List.mem_of_getElem? (i := 14) (by decide +kernel)) (by decide +kernel), by decide +kernel, by decide +kernel, by decide +kernel⟩
theorem mi_X12_lacks : Cond.instanceMethod yX12_lacks ∈ mTb := tm7 (List.mem_of_getElem? (i := 122) (by decide +kernel)) (by decide +kernel)
theorem ms_X12_lacks : Cond.selects yX12_lacks.cls yX12_lacks yX12_lacks ∈ mTb := tmp_ (i := 64) (by decide +kernel)
theorem me_X12_makes : mMe yX12_makes cX12_makes 7 none 2 := ⟨tm6 (List.mem_of_getElem? (i := 175) (by decide +kernel)) (by decide +kernel), tm1 (List.mem_of_getElem? (i := 14) (by decide +kernel)) (by decide +kernel), by decide +kernel, by decide +kernel, by decide +kernel⟩
theorem mi_X12_makes : Cond.instanceMethod yX12_makes ∈ mTb := tm6 (List.mem_of_getElem? (i := 174) (by decide +kernel)) (by decide +kernel)
theorem ms_X12_makes : Cond.selects yX12_makes.cls yX12_makes yX12_makes ∈ mTb := tmp_ (i := 35) (by decide +kernel)
theorem me_X12_mask : mMe yX12_mask cX12_mask 2 (some .int) 1 := ⟨tm6 (List.mem_of_getElem? (i := 123) (by decide +kernel)) (by decide +kernel), tm1 (List.mem_of_getElem? (i := 14) (by decide +kernel)) (by decide +kernel), by decide +kernel, by decide +kernel, by decide +kernel⟩
theorem mi_X12_mask : Cond.instanceMethod yX12_mask ∈ mTb := tm6 (List.mem_of_getElem? (i := 122) (by decide +kernel)) (by decide +kernel)
theorem ms_X12_mask : Cond.selects yX12_mask.cls yX12_mask yX12_mask ∈ mTb := tmp_ (i := 31) (by decide +kernel)
theorem me_X12_most : mMe yX12_most cX12_most 2 (some .int) 1 := ⟨tm6 (List.mem_of_getElem? (i := 127) (by decide +kernel)) (by decide +kernel), tm1 (List.mem_of_getElem? (i := 14) (by decide +kernel)) (by decide +kernel), by decide +kernel, by decide +kernel, by decide +kernel⟩
theorem mi_X12_most : Cond.instanceMethod yX12_most ∈ mTb := tm6 (List.mem_of_getElem? (i := 126) (by decide +kernel)) (by decide +kernel)
theorem ms_X12_most : Cond.selects yX12_most.cls yX12_most yX12_most ∈ mTb := tmp_ (i := 32) (by decide +kernel)
theorem me_X12_narrowed : mMe yX12_narrowed cX12_narrowed 3 (some .long) 2 := ⟨tm7 (List.mem_of_getElem? (i := 142) (by decide +kernel)) (by decide +kernel), tm1 (List.mem_of_getElem? (i := 14) (by decide +kernel)) (by decide +kernel), by decide +kernel, by decide +kernel, by decide +kernel⟩
theorem me_X12_pauses : mMe yX12_pauses cX12_pauses 4 none 2 := ⟨tm7 (List.mem_of_getElem? (i := 39) (by decide +kernel)) (by decide +kernel), tm1 (List.mem_of_getElem? (i := 14) (by decide +kernel)) (by decide +kernel), by decide +kernel, by decide +kernel, by decide +kernel⟩
theorem mi_X12_pauses : Cond.instanceMethod yX12_pauses ∈ mTb := tm7 (List.mem_of_getElem? (i := 38) (by decide +kernel)) (by decide +kernel)
theorem ms_X12_pauses : Cond.selects yX12_pauses.cls yX12_pauses yX12_pauses ∈ mTb := tmp_ (i := 56) (by decide +kernel)
theorem me_X12_picks : mMe yX12_picks cX12_picks 3 none 2 := ⟨tm7 (List.mem_of_getElem? (i := 43) (by decide +kernel)) (by decide +kernel), tm1 (List.mem_of_getElem? (i := 14) (by decide +kernel)) (by decide +kernel), by decide +kernel, by decide +kernel, by decide +kernel⟩
theorem mi_X12_picks : Cond.instanceMethod yX12_picks ∈ mTb := tm7 (List.mem_of_getElem? (i := 42) (by decide +kernel)) (by decide +kernel)
theorem ms_X12_picks : Cond.selects yX12_picks.cls yX12_picks yX12_picks ∈ mTb := tmp_ (i := 57) (by decide +kernel)
theorem me_X12_polls : mMe yX12_polls cX12_polls 4 (some .boolean) 2 := ⟨tm7 (List.mem_of_getElem? (i := 35) (by decide +kernel)) (by decide +kernel), tm1 (List.mem_of_getElem? (i := 14) (by decide +kernel)) (by decide +kernel), by decide +kernel, by decide +kernel, by decide +kernel⟩
theorem mi_X12_polls : Cond.instanceMethod yX12_polls ∈ mTb := tm7 (List.mem_of_getElem? (i := 34) (by decide +kernel)) (by decide +kernel)
theorem ms_X12_polls : Cond.selects yX12_polls.cls yX12_polls yX12_polls ∈ mTb := tmp_ (i := 55) (by decide +kernel)
theorem me_X12_powers : mMe yX12_powers cX12_powers 2 none 0 := ⟨tm6 (List.mem_of_getElem? (i := 111) (by decide +kernel)) (by decide +kernel), tm1 (List.mem_of_getElem? (i := 14) (by decide +kernel)) (by decide +kernel), by decide +kernel, by decide +kernel, by decide +kernel⟩
theorem mi_X12_powers : Cond.instanceMethod yX12_powers ∈ mTb := tm6 (List.mem_of_getElem? (i := 110) (by decide +kernel)) (by decide +kernel)
theorem ms_X12_powers : Cond.selects yX12_powers.cls yX12_powers yX12_powers ∈ mTb := tmp_ (i := 29) (by decide +kernel)
theorem me_X12_puts : mMe yX12_puts cX12_puts 8 none 2 := ⟨tm7 (List.mem_of_getElem? (i := 7) (by decide +kernel)) (by decide +kernel), tm1 (List.mem_of_getElem? (i := 14) (by decide +kernel)) (by decide +kernel), by decide +kernel, by decide +kernel, by decide +kernel⟩
theorem mi_X12_puts : Cond.instanceMethod yX12_puts ∈ mTb := tm7 (List.mem_of_getElem? (i := 6) (by decide +kernel)) (by decide +kernel)
theorem ms_X12_puts : Cond.selects yX12_puts.cls yX12_puts yX12_puts ∈ mTb := tmp_ (i := 48) (by decide +kernel)
theorem me_X12_reads : mMe yX12_reads cX12_reads 5 (some .int) 2 := ⟨tm6 (List.mem_of_getElem? (i := 239) (by decide +kernel)) (by decide +kernel), tm1 (List.mem_of_getElem? (i := 14) (by decide +kernel)) (by decide +kernel), by decide +kernel, by decide +kernel, by decide +kernel⟩
theorem mi_X12_reads : Cond.instanceMethod yX12_reads ∈ mTb := tm6 (List.mem_of_getElem? (i := 238) (by decide +kernel)) (by decide +kernel)
theorem ms_X12_reads : Cond.selects yX12_reads.cls yX12_reads yX12_reads ∈ mTb := tmp_ (i := 46) (by decide +kernel)
theorem me_X12_refuse : mMe yX12_refuse cX12_refuse 2 (some .int) 1 := ⟨tm7 (List.mem_of_getElem? (i := 111) (by decide +kernel)) (by decide +kernel), tm1 (List.mem_of_getElem? (i := 14) (by decide +kernel)) (by decide +kernel), by decide +kernel, by decide +kernel, by decide +kernel⟩
theorem mi_X12_refuse : Cond.instanceMethod yX12_refuse ∈ mTb := tm7 (List.mem_of_getElem? (i := 110) (by decide +kernel)) (by decide +kernel)
theorem ms_X12_refuse : Cond.selects yX12_refuse.cls yX12_refuse yX12_refuse ∈ mTb := tmp_ (i := 63) (by decide +kernel)
theorem me_X12_runs : mMe yX12_runs cX12_runs 6 (some .boolean) 2 := ⟨tm6 (List.mem_of_getElem? (i := 227) (by decide +kernel)) (by decide +kernel), tm1 (List.mem_of_getElem? (i := 14) (by decide +kernel)) (by decide +kernel), by decide +kernel, by decide +kernel, by decide +kernel⟩
theorem mi_X12_runs : Cond.instanceMethod yX12_runs ∈ mTb := tm6 (List.mem_of_getElem? (i := 226) (by decide +kernel)) (by decide +kernel)
theorem ms_X12_runs : Cond.selects yX12_runs.cls yX12_runs yX12_runs ∈ mTb := tmp_ (i := 43) (by decide +kernel)
theorem me_X12_setTo : mMe yX12_setTo cX12_setTo 5 (some .int) 2 := ⟨tm7 (List.mem_of_getElem? (i := 96) (by decide +kernel)) (by decide +kernel), tm1 (List.mem_of_getElem? (i := 14) (by decide +kernel)) (by decide +kernel), by decide +kernel, by decide +kernel, by decide +kernel⟩
theorem mi_X12_setTo : Cond.instanceMethod yX12_setTo ∈ mTb := tm7 (List.mem_of_getElem? (i := 95) (by decide +kernel)) (by decide +kernel)
theorem ms_X12_setTo : Cond.selects yX12_setTo.cls yX12_setTo yX12_setTo ∈ mTb := tmp_ (i := 62) (by decide +kernel)
theorem me_X12_stores : mMe yX12_stores cX12_stores 3 none 1 := ⟨tm7 (List.mem_of_getElem? (i := 80) (by decide +kernel)) (by decide +kernel), tm1 (List.mem_of_getElem? (i := 14) (by decide +kernel)) (by decide +kernel), by decide +kernel, by decide +kernel, by decide +kernel⟩
theorem mi_X12_stores : Cond.instanceMethod yX12_stores ∈ mTb := tm7 (List.mem_of_getElem? (i := 79) (by decide +kernel)) (by decide +kernel)
theorem ms_X12_stores : Cond.selects yX12_stores.cls yX12_stores yX12_stores ∈ mTb := tmp_ (i := 58) (by decide +kernel)
theorem me_X12_takes : mMe yX12_takes cX12_takes 4 none 2 := ⟨tm7 (List.mem_of_getElem? (i := 31) (by decide +kernel)) (by decide +kernel), tm1 (List.mem_of_getElem? (i := 14) (by decide +kernel)) (by decide +kernel), by decide +kernel, by decide +kernel, by decide +kernel⟩
theorem mi_X12_takes : Cond.instanceMethod yX12_takes ∈ mTb := tm7 (List.mem_of_getElem? (i := 30) (by decide +kernel)) (by decide +kernel)
theorem ms_X12_takes : Cond.selects yX12_takes.cls yX12_takes yX12_takes ∈ mTb := tmp_ (i := 54) (by decide +kernel)
theorem me_X12_ticks : mMe yX12_ticks cX12_ticks 4 none 0 := ⟨tm7 (List.mem_of_getElem? (i := 3) (by decide +kernel)) (by decide +kernel), tm1 (List.mem_of_getElem? (i := 14) (by decide +kernel)) (by decide +kernel), by decide +kernel, by decide +kernel, by decide +kernel⟩
theorem mi_X12_ticks : Cond.instanceMethod yX12_ticks ∈ mTb := tm7 (List.mem_of_getElem? (i := 2) (by decide +kernel)) (by decide +kernel)
theorem ms_X12_ticks : Cond.selects yX12_ticks.cls yX12_ticks yX12_ticks ∈ mTb := tmp_ (i := 47) (by decide +kernel)
theorem me_X12_writes : mMe yX12_writes cX12_writes 4 none 2 := ⟨tm7 (List.mem_of_getElem? (i := 11) (by decide +kernel)) (by decide +kernel), tm1 (List.mem_of_getElem? (i := 14) (by decide +kernel)) (by decide +kernel), by decide +kernel, by decide +kernel, by decide +kernel⟩
theorem mi_X12_writes : Cond.instanceMethod yX12_writes ∈ mTb := tm7 (List.mem_of_getElem? (i := 10) (by decide +kernel)) (by decide +kernel)
theorem ms_X12_writes : Cond.selects yX12_writes.cls yX12_writes yX12_writes ∈ mTb := tmp_ (i := 49) (by decide +kernel)
theorem me_X1_bitsOfAll : mMe yX1_bitsOfAll cX1_bitsOfAll 4 (some .int) 1 := ⟨tm3 (List.mem_of_getElem? (i := 62) (by decide +kernel)) (by decide +kernel), tm1 (List.mem_of_getElem? (i := 2) (by decide +kernel)) (by decide +kernel), by decide +kernel, by decide +kernel, by decide +kernel⟩
theorem mi_X1_bitsOfAll : Cond.instanceMethod yX1_bitsOfAll ∈ mTb := tm3 (List.mem_of_getElem? (i := 60) (by decide +kernel)) (by decide +kernel)
theorem ms_X1_bitsOfAll : Cond.selects yX1_bitsOfAll.cls yX1_bitsOfAll yX1_bitsOfAll ∈ mTb := tm3 (List.mem_of_getElem? (i := 61) (by decide +kernel)) (by decide +kernel)
theorem me_X1_bitsOfKept : mMe yX1_bitsOfKept cX1_bitsOfKept 4 (some .int) 1 := ⟨tm3 (List.mem_of_getElem? (i := 185) (by decide +kernel)) (by decide +kernel), tm1 (List.mem_of_getElem? (i := 2) (by decide +kernel)) (by decide +kernel), by decide +kernel, by decide +kernel, by decide +kernel⟩
theorem mi_X1_bitsOfKept : Cond.instanceMethod yX1_bitsOfKept ∈ mTb := tm3 (List.mem_of_getElem? (i := 183) (by decide +kernel)) (by decide +kernel)
theorem ms_X1_bitsOfKept : Cond.selects yX1_bitsOfKept.cls yX1_bitsOfKept yX1_bitsOfKept ∈ mTb := tm3 (List.mem_of_getElem? (i := 184) (by decide +kernel)) (by decide +kernel)
theorem me_X1_changeDone : mMe yX1_changeDone cX1_changeDone 4 (some .int) 2 := ⟨tm3 (List.mem_of_getElem? (i := 86) (by decide +kernel)) (by decide +kernel), tm1 (List.mem_of_getElem? (i := 2) (by decide +kernel)) (by decide +kernel), by decide +kernel, by decide +kernel, by decide +kernel⟩
theorem mi_X1_changeDone : Cond.instanceMethod yX1_changeDone ∈ mTb := tm3 (List.mem_of_getElem? (i := 84) (by decide +kernel)) (by decide +kernel)
theorem ms_X1_changeDone : Cond.selects yX1_changeDone.cls yX1_changeDone yX1_changeDone ∈ mTb := tm3 (List.mem_of_getElem? (i := 85) (by decide +kernel)) (by decide +kernel)
theorem me_X1_changeHandler : mMe yX1_changeHandler cX1_changeHandler 4 (some .int) 2 := ⟨tm3 (List.mem_of_getElem? (i := 141) (by decide +kernel)) (by decide +kernel), tm1 (List.mem_of_getElem? (i := 2) (by decide +kernel)) (by decide +kernel), by decide +kernel, by decide +kernel, by decide +kernel⟩
theorem mi_X1_changeHandler : Cond.instanceMethod yX1_changeHandler ∈ mTb := tm3 (List.mem_of_getElem? (i := 139) (by decide +kernel)) (by decide +kernel)
theorem ms_X1_changeHandler : Cond.selects yX1_changeHandler.cls yX1_changeHandler yX1_changeHandler ∈ mTb := tm3 (List.mem_of_getElem? (i := 140) (by decide +kernel)) (by decide +kernel)
theorem me_X1_changeLocks : mMe yX1_changeLocks cX1_changeLocks 3 (some .int) 1 := ⟨tm3 (List.mem_of_getElem? (i := 149) (by decide +kernel)) (by decide +kernel), tm1 (List.mem_of_getElem? (i := 2) (by decide +kernel)) (by decide +kernel), by decide +kernel, by decide +kernel, by decide +kernel⟩
theorem mi_X1_changeLocks : Cond.instanceMethod yX1_changeLocks ∈ mTb := tm3 (List.mem_of_getElem? (i := 147) (by decide +kernel)) (by decide +kernel)
theorem ms_X1_changeLocks : Cond.selects yX1_changeLocks.cls yX1_changeLocks yX1_changeLocks ∈ mTb := tm3 (List.mem_of_getElem? (i := 148) (by decide +kernel)) (by decide +kernel)
theorem me_X1_changePeriod : mMe yX1_changePeriod cX1_changePeriod 4 (some .int) 2 := ⟨tm3 (List.mem_of_getElem? (i := 78) (by decide +kernel)) (by decide +kernel), tm1 (List.mem_of_getElem? (i := 2) (by decide +kernel)) (by decide +kernel), by decide +kernel, by decide +kernel, by decide +kernel⟩
theorem mi_X1_changePeriod : Cond.instanceMethod yX1_changePeriod ∈ mTb := tm3 (List.mem_of_getElem? (i := 76) (by decide +kernel)) (by decide +kernel)
theorem ms_X1_changePeriod : Cond.selects yX1_changePeriod.cls yX1_changePeriod yX1_changePeriod ∈ mTb := tm3 (List.mem_of_getElem? (i := 77) (by decide +kernel)) (by decide +kernel)
theorem me_X1_dropSteps : mMe yX1_dropSteps cX1_dropSteps 3 (some .int) 1 := ⟨tm3 (List.mem_of_getElem? (i := 133) (by decide +kernel)) (by decide +kernel), tm1 (List.mem_of_getElem? (i := 2) (by decide +kernel)) (by decide +kernel), by decide +kernel, by decide +kernel, by decide +kernel⟩
theorem mi_X1_dropSteps : Cond.instanceMethod yX1_dropSteps ∈ mTb := tm3 (List.mem_of_getElem? (i := 131) (by decide +kernel)) (by decide +kernel)
theorem ms_X1_dropSteps : Cond.selects yX1_dropSteps.cls yX1_dropSteps yX1_dropSteps ∈ mTb := tm3 (List.mem_of_getElem? (i := 132) (by decide +kernel)) (by decide +kernel)
theorem me_X1_hasAct : mMe yX1_hasAct cX1_hasAct 2 (some .boolean) 1 := ⟨tm3 (List.mem_of_getElem? (i := 110) (by decide +kernel)) (by decide +kernel), tm1 (List.mem_of_getElem? (i := 2) (by decide +kernel)) (by decide +kernel), by decide +kernel, by decide +kernel, by decide +kernel⟩
theorem mi_X1_hasAct : Cond.instanceMethod yX1_hasAct ∈ mTb := tm3 (List.mem_of_getElem? (i := 108) (by decide +kernel)) (by decide +kernel)
theorem ms_X1_hasAct : Cond.selects yX1_hasAct.cls yX1_hasAct yX1_hasAct ∈ mTb := tm3 (List.mem_of_getElem? (i := 109) (by decide +kernel)) (by decide +kernel)
theorem me_X1_hasField : mMe yX1_hasField cX1_hasField 2 (some .boolean) 1 := ⟨tm3 (List.mem_of_getElem? (i := 74) (by decide +kernel)) (by decide +kernel), tm1 (List.mem_of_getElem? (i := 2) (by decide +kernel)) (by decide +kernel), by decide +kernel, by decide +kernel, by decide +kernel⟩
theorem mi_X1_hasField : Cond.instanceMethod yX1_hasField ∈ mTb := tm3 (List.mem_of_getElem? (i := 72) (by decide +kernel)) (by decide +kernel)
theorem ms_X1_hasField : Cond.selects yX1_hasField.cls yX1_hasField yX1_hasField ∈ mTb := tm3 (List.mem_of_getElem? (i := 73) (by decide +kernel)) (by decide +kernel)
theorem me_X1_hasHandlers : mMe yX1_hasHandlers cX1_hasHandlers 2 (some .boolean) 0 := ⟨tm3 (List.mem_of_getElem? (i := 198) (by decide +kernel)) (by decide +kernel), tm1 (List.mem_of_getElem? (i := 2) (by decide +kernel)) (by decide +kernel), by decide +kernel, by decide +kernel, by decide +kernel⟩
theorem mi_X1_hasHandlers : Cond.instanceMethod yX1_hasHandlers ∈ mTb := tm3 (List.mem_of_getElem? (i := 196) (by decide +kernel)) (by decide +kernel)
theorem ms_X1_hasHandlers : Cond.selects yX1_hasHandlers.cls yX1_hasHandlers yX1_hasHandlers ∈ mTb := tm3 (List.mem_of_getElem? (i := 197) (by decide +kernel)) (by decide +kernel)
theorem me_X1_hasRegister : mMe yX1_hasRegister cX1_hasRegister 2 (some .boolean) 1 := ⟨tm3 (List.mem_of_getElem? (i := 55) (by decide +kernel)) (by decide +kernel), tm1 (List.mem_of_getElem? (i := 2) (by decide +kernel)) (by decide +kernel), by decide +kernel, by decide +kernel, by decide +kernel⟩
theorem mi_X1_hasRegister : Cond.instanceMethod yX1_hasRegister ∈ mTb := tm3 (List.mem_of_getElem? (i := 53) (by decide +kernel)) (by decide +kernel)
theorem ms_X1_hasRegister : Cond.selects yX1_hasRegister.cls yX1_hasRegister yX1_hasRegister ∈ mTb := tm3 (List.mem_of_getElem? (i := 54) (by decide +kernel)) (by decide +kernel)
theorem me_X1_isBound : mMe yX1_isBound cX1_isBound 4 (some .boolean) 2 := ⟨tm3 (List.mem_of_getElem? (i := 172) (by decide +kernel)) (by decide +kernel), tm1 (List.mem_of_getElem? (i := 2) (by decide +kernel)) (by decide +kernel), by decide +kernel, by decide +kernel, by decide +kernel⟩
theorem mi_X1_isBound : Cond.instanceMethod yX1_isBound ∈ mTb := tm3 (List.mem_of_getElem? (i := 170) (by decide +kernel)) (by decide +kernel)
theorem ms_X1_isBound : Cond.selects yX1_isBound.cls yX1_isBound yX1_isBound ∈ mTb := tm3 (List.mem_of_getElem? (i := 171) (by decide +kernel)) (by decide +kernel)
theorem me_X1_isShadowed : mMe yX1_isShadowed cX1_isShadowed 4 (some .boolean) 1 := ⟨tm3 (List.mem_of_getElem? (i := 194) (by decide +kernel)) (by decide +kernel), tm1 (List.mem_of_getElem? (i := 2) (by decide +kernel)) (by decide +kernel), by decide +kernel, by decide +kernel, by decide +kernel⟩
theorem mi_X1_isShadowed : Cond.instanceMethod yX1_isShadowed ∈ mTb := tm3 (List.mem_of_getElem? (i := 192) (by decide +kernel)) (by decide +kernel)
theorem ms_X1_isShadowed : Cond.selects yX1_isShadowed.cls yX1_isShadowed yX1_isShadowed ∈ mTb := tm3 (List.mem_of_getElem? (i := 193) (by decide +kernel)) (by decide +kernel)
theorem me_X1_makeCode : mMe yX1_makeCode cX1_makeCode 2 none 0 := ⟨tm3 (List.mem_of_getElem? (i := 157) (by decide +kernel)) (by decide +kernel), tm1 (List.mem_of_getElem? (i := 2) (by decide +kernel)) (by decide +kernel), by decide +kernel, by decide +kernel, by decide +kernel⟩
theorem mi_X1_makeCode : Cond.instanceMethod yX1_makeCode ∈ mTb := tm3 (List.mem_of_getElem? (i := 155) (by decide +kernel)) (by decide +kernel)
theorem ms_X1_makeCode : Cond.selects yX1_makeCode.cls yX1_makeCode yX1_makeCode ∈ mTb := tm3 (List.mem_of_getElem? (i := 156) (by decide +kernel)) (by decide +kernel)
theorem me_X1_startAnew : mMe yX1_startAnew cX1_startAnew 2 none 1 := ⟨tm3 (List.mem_of_getElem? (i := 23) (by decide +kernel)) (by decide +kernel), tm1 (List.mem_of_getElem? (i := 2) (by decide +kernel)) (by decide +kernel), by decide +kernel, by decide +kernel, by decide +kernel⟩
theorem mi_X1_startAnew : Cond.instanceMethod yX1_startAnew ∈ mTb := tm3 (List.mem_of_getElem? (i := 21) (by decide +kernel)) (by decide +kernel)
theorem ms_X1_startAnew : Cond.selects yX1_startAnew.cls yX1_startAnew yX1_startAnew ∈ mTb := tm3 (List.mem_of_getElem? (i := 22) (by decide +kernel)) (by decide +kernel)
theorem me_X1_tellAct : mMe yX1_tellAct cX1_tellAct 1 (some .int) 0 := ⟨tm3 (List.mem_of_getElem? (i := 102) (by decide +kernel)) (by decide +kernel), tm1 (List.mem_of_getElem? (i := 2) (by decide +kernel)) (by decide +kernel), by decide +kernel, by decide +kernel, by decide +kernel⟩
theorem mi_X1_tellAct : Cond.instanceMethod yX1_tellAct ∈ mTb := tm3 (List.mem_of_getElem? (i := 100) (by decide +kernel)) (by decide +kernel)
theorem ms_X1_tellAct : Cond.selects yX1_tellAct.cls yX1_tellAct yX1_tellAct ∈ mTb := tm3 (List.mem_of_getElem? (i := 101) (by decide +kernel)) (by decide +kernel)
theorem me_X1_tellField : mMe yX1_tellField cX1_tellField 7 (some .int) 5 := ⟨tm3 (List.mem_of_getElem? (i := 66) (by decide +kernel)) (by decide +kernel), tm1 (List.mem_of_getElem? (i := 2) (by decide +kernel)) (by decide +kernel), by decide +kernel, by decide +kernel, by decide +kernel⟩
theorem mi_X1_tellField : Cond.instanceMethod yX1_tellField ∈ mTb := tm3 (List.mem_of_getElem? (i := 64) (by decide +kernel)) (by decide +kernel)
theorem ms_X1_tellField : Cond.selects yX1_tellField.cls yX1_tellField yX1_tellField ∈ mTb := tm3 (List.mem_of_getElem? (i := 65) (by decide +kernel)) (by decide +kernel)
theorem me_X1_tellLaw : mMe yX1_tellLaw cX1_tellLaw 6 (some .int) 4 := ⟨tm3 (List.mem_of_getElem? (i := 94) (by decide +kernel)) (by decide +kernel), tm1 (List.mem_of_getElem? (i := 2) (by decide +kernel)) (by decide +kernel), by decide +kernel, by decide +kernel, by decide +kernel⟩
theorem mi_X1_tellLaw : Cond.instanceMethod yX1_tellLaw ∈ mTb := tm3 (List.mem_of_getElem? (i := 92) (by decide +kernel)) (by decide +kernel)
theorem ms_X1_tellLaw : Cond.selects yX1_tellLaw.cls yX1_tellLaw yX1_tellLaw ∈ mTb := tm3 (List.mem_of_getElem? (i := 93) (by decide +kernel)) (by decide +kernel)
theorem me_X1_tellStep : mMe yX1_tellStep cX1_tellStep 6 (some .int) 5 := ⟨tm3 (List.mem_of_getElem? (i := 121) (by decide +kernel)) (by decide +kernel), tm1 (List.mem_of_getElem? (i := 2) (by decide +kernel)) (by decide +kernel), by decide +kernel, by decide +kernel, by decide +kernel⟩
theorem mi_X1_tellStep : Cond.instanceMethod yX1_tellStep ∈ mTb := tm3 (List.mem_of_getElem? (i := 119) (by decide +kernel)) (by decide +kernel)
theorem ms_X1_tellStep : Cond.selects yX1_tellStep.cls yX1_tellStep yX1_tellStep ∈ mTb := tm3 (List.mem_of_getElem? (i := 120) (by decide +kernel)) (by decide +kernel)
theorem me_X2_endPulse : mMe yX2_endPulse cX2_endPulse 3 none 1 := ⟨tm4 (List.mem_of_getElem? (i := 41) (by decide +kernel)) (by decide +kernel), tm1 (List.mem_of_getElem? (i := 9) (by decide +kernel)) (by decide +kernel), by decide +kernel, by decide +kernel, by decide +kernel⟩
theorem mi_X2_endPulse : Cond.instanceMethod yX2_endPulse ∈ mTb := tm4 (List.mem_of_getElem? (i := 40) (by decide +kernel)) (by decide +kernel)
theorem ms_X2_endPulse : Cond.selects yX2_endPulse.cls yX2_endPulse yX2_endPulse ∈ mTb := tmp_ (i := 11) (by decide +kernel)
theorem me_X2_fireEvents : mMe yX2_fireEvents cX2_fireEvents 4 none 0 := ⟨tm4 (List.mem_of_getElem? (i := 45) (by decide +kernel)) (by decide +kernel), tm1 (List.mem_of_getElem? (i := 9) (by decide +kernel)) (by decide +kernel), by decide +kernel, by decide +kernel, by decide +kernel⟩
theorem mi_X2_fireEvents : Cond.instanceMethod yX2_fireEvents ∈ mTb := tm4 (List.mem_of_getElem? (i := 44) (by decide +kernel)) (by decide +kernel)
theorem ms_X2_fireEvents : Cond.selects yX2_fireEvents.cls yX2_fireEvents yX2_fireEvents ∈ mTb := tmp_ (i := 12) (by decide +kernel)
theorem me_X2_hitsOf : mMe yX2_hitsOf cX2_hitsOf 6 (some .int) 2 := ⟨tm4 (List.mem_of_getElem? (i := 61) (by decide +kernel)) (by decide +kernel), tm1 (List.mem_of_getElem? (i := 9) (by decide +kernel)) (by decide +kernel), by decide +kernel, by decide +kernel, by decide +kernel⟩
theorem mi_X2_hitsOf : Cond.instanceMethod yX2_hitsOf ∈ mTb := tm4 (List.mem_of_getElem? (i := 60) (by decide +kernel)) (by decide +kernel)
theorem ms_X2_hitsOf : Cond.selects yX2_hitsOf.cls yX2_hitsOf yX2_hitsOf ∈ mTb := tmp_ (i := 14) (by decide +kernel)
theorem me_X2_isBroken : mMe yX2_isBroken cX2_isBroken 2 (some .boolean) 1 := ⟨tm4 (List.mem_of_getElem? (i := 78) (by decide +kernel)) (by decide +kernel), tm1 (List.mem_of_getElem? (i := 9) (by decide +kernel)) (by decide +kernel), by decide +kernel, by decide +kernel, by decide +kernel⟩
theorem mi_X2_isBroken : Cond.instanceMethod yX2_isBroken ∈ mTb := tm4 (List.mem_of_getElem? (i := 77) (by decide +kernel)) (by decide +kernel)
theorem ms_X2_isBroken : Cond.selects yX2_isBroken.cls yX2_isBroken yX2_isBroken ∈ mTb := tmp_ (i := 17) (by decide +kernel)
theorem me_X2_isHit : mMe yX2_isHit cX2_isHit 3 (some .boolean) 2 := ⟨tm4 (List.mem_of_getElem? (i := 69) (by decide +kernel)) (by decide +kernel), tm1 (List.mem_of_getElem? (i := 9) (by decide +kernel)) (by decide +kernel), by decide +kernel, by decide +kernel, by decide +kernel⟩
theorem mi_X2_isHit : Cond.instanceMethod yX2_isHit ∈ mTb := tm4 (List.mem_of_getElem? (i := 68) (by decide +kernel)) (by decide +kernel)
theorem ms_X2_isHit : Cond.selects yX2_isHit.cls yX2_isHit yX2_isHit ∈ mTb := tmp_ (i := 15) (by decide +kernel)
theorem me_X2_loadHeld : mMe yX2_loadHeld cX2_loadHeld 2 none 0 := ⟨tm4 (List.mem_of_getElem? (i := 91) (by decide +kernel)) (by decide +kernel), tm1 (List.mem_of_getElem? (i := 9) (by decide +kernel)) (by decide +kernel), by decide +kernel, by decide +kernel, by decide +kernel⟩
theorem mi_X2_loadHeld : Cond.instanceMethod yX2_loadHeld ∈ mTb := tm4 (List.mem_of_getElem? (i := 90) (by decide +kernel)) (by decide +kernel)
theorem ms_X2_loadHeld : Cond.selects yX2_loadHeld.cls yX2_loadHeld yX2_loadHeld ∈ mTb := tmp_ (i := 19) (by decide +kernel)
theorem me_X2_lookAtLaws : mMe yX2_lookAtLaws cX2_lookAtLaws 4 none 1 := ⟨tm4 (List.mem_of_getElem? (i := 73) (by decide +kernel)) (by decide +kernel), tm1 (List.mem_of_getElem? (i := 9) (by decide +kernel)) (by decide +kernel), by decide +kernel, by decide +kernel, by decide +kernel⟩
theorem mi_X2_lookAtLaws : Cond.instanceMethod yX2_lookAtLaws ∈ mTb := tm4 (List.mem_of_getElem? (i := 72) (by decide +kernel)) (by decide +kernel)
theorem ms_X2_lookAtLaws : Cond.selects yX2_lookAtLaws.cls yX2_lookAtLaws yX2_lookAtLaws ∈ mTb := tmp_ (i := 16) (by decide +kernel)
theorem me_X2_powerUp : mMe yX2_powerUp cX2_powerUp 3 none 0 := ⟨tm3 (List.mem_of_getElem? (i := 31) (by decide +kernel)) (by decide +kernel), tm1 (List.mem_of_getElem? (i := 9) (by decide +kernel)) (by decide +kernel), by decide +kernel, by decide +kernel, by decide +kernel⟩
theorem mi_X2_powerUp : Cond.instanceMethod yX2_powerUp ∈ mTb := tm3 (List.mem_of_getElem? (i := 29) (by decide +kernel)) (by decide +kernel)
theorem ms_X2_powerUp : Cond.selects yX2_powerUp.cls yX2_powerUp yX2_powerUp ∈ mTb := tm3 (List.mem_of_getElem? (i := 30) (by decide +kernel)) (by decide +kernel)
theorem me_X2_readRegister : mMe yX2_readRegister cX2_readRegister 7 (some .int) 2 := ⟨tm4 (List.mem_of_getElem? (i := 33) (by decide +kernel)) (by decide +kernel), tm1 (List.mem_of_getElem? (i := 9) (by decide +kernel)) (by decide +kernel), by decide +kernel, by decide +kernel, by decide +kernel⟩
theorem mi_X2_readRegister : Cond.instanceMethod yX2_readRegister ∈ mTb := tm4 (List.mem_of_getElem? (i := 31) (by decide +kernel)) (by decide +kernel)
theorem ms_X2_readRegister : Cond.selects yX2_readRegister.cls yX2_readRegister yX2_readRegister ∈ mTb := tm4 (List.mem_of_getElem? (i := 32) (by decide +kernel)) (by decide +kernel)
theorem me_X2_sortIn : mMe yX2_sortIn cX2_sortIn 4 none 2 := ⟨tm3 (List.mem_of_getElem? (i := 43) (by decide +kernel)) (by decide +kernel), tm1 (List.mem_of_getElem? (i := 9) (by decide +kernel)) (by decide +kernel), by decide +kernel, by decide +kernel, by decide +kernel⟩
theorem mi_X2_sortIn : Cond.instanceMethod yX2_sortIn ∈ mTb := tm3 (List.mem_of_getElem? (i := 42) (by decide +kernel)) (by decide +kernel)
theorem ms_X2_sortIn : Cond.selects yX2_sortIn.cls yX2_sortIn yX2_sortIn ∈ mTb := tmp_ (i := 0) (by decide +kernel)
theorem me_X2_tick : mMe yX2_tick cX2_tick 3 none 0 := ⟨tm4 (List.mem_of_getElem? (i := 37) (by decide +kernel)) (by decide +kernel), tm1 (List.mem_of_getElem? (i := 9) (by decide +kernel)) (by decide +kernel), by decide +kernel, by decide +kernel, by decide +kernel⟩
theorem mi_X2_tick : Cond.instanceMethod yX2_tick ∈ mTb := tm4 (List.mem_of_getElem? (i := 35) (by decide +kernel)) (by decide +kernel)
theorem ms_X2_tick : Cond.selects yX2_tick.cls yX2_tick yX2_tick ∈ mTb := tm4 (List.mem_of_getElem? (i := 36) (by decide +kernel)) (by decide +kernel)
theorem me_X2_writeField : mMe yX2_writeField cX2_writeField 3 none 2 := ⟨tm4 (List.mem_of_getElem? (i := 87) (by decide +kernel)) (by decide +kernel), tm1 (List.mem_of_getElem? (i := 9) (by decide +kernel)) (by decide +kernel), by decide +kernel, by decide +kernel, by decide +kernel⟩
theorem mi_X2_writeField : Cond.instanceMethod yX2_writeField ∈ mTb := tm4 (List.mem_of_getElem? (i := 86) (by decide +kernel)) (by decide +kernel)
theorem ms_X2_writeField : Cond.selects yX2_writeField.cls yX2_writeField yX2_writeField ∈ mTb := tmp_ (i := 18) (by decide +kernel)
theorem me_X2_writeRegister : mMe yX2_writeRegister cX2_writeRegister 6 none 2 := ⟨tm4 (List.mem_of_getElem? (i := 57) (by decide +kernel)) (by decide +kernel), tm1 (List.mem_of_getElem? (i := 9) (by decide +kernel)) (by decide +kernel), by decide +kernel, by decide +kernel, by decide +kernel⟩
theorem mi_X2_writeRegister : Cond.instanceMethod yX2_writeRegister ∈ mTb := tm4 (List.mem_of_getElem? (i := 55) (by decide +kernel)) (by decide +kernel)
theorem ms_X2_writeRegister : Cond.selects yX2_writeRegister.cls yX2_writeRegister yX2_writeRegister ∈ mTb := tm4 (List.mem_of_getElem? (i := 56) (by decide +kernel)) (by decide +kernel)
theorem me_X3_add : mMe yX3_add cX3_add 8 none 6 := ⟨tm3 (List.mem_of_getElem? (i := 190) (by decide +kernel)) (by decide +kernel), tm1 (List.mem_of_getElem? (i := 6) (by decide +kernel)) (by decide +kernel), by decide +kernel, by decide +kernel, by decide +kernel⟩
theorem mi_X3_add : Cond.instanceMethod yX3_add ∈ mTb := tm3 (List.mem_of_getElem? (i := 189) (by decide +kernel)) (by decide +kernel)
theorem ms_X3_add : Cond.selects yX3_add.cls yX3_add yX3_add ∈ mTb := tmp_ (i := 4) (by decide +kernel)
theorem me_X3_addReadAndWrite : mMe yX3_addReadAndWrite cX3_addReadAndWrite 4 none 3 := ⟨tm3 (List.mem_of_getElem? (i := 202) (by decide +kernel)) (by decide +kernel), tm1 (List.mem_of_getElem? (i := 6) (by decide +kernel)) (by decide +kernel), by decide +kernel, by decide +kernel, by decide +kernel⟩
theorem mi_X3_addReadAndWrite : Cond.instanceMethod yX3_addReadAndWrite ∈ mTb := tm3 (List.mem_of_getElem? (i := 201) (by decide +kernel)) (by decide +kernel)
theorem ms_X3_addReadAndWrite : Cond.selects yX3_addReadAndWrite.cls yX3_addReadAndWrite yX3_addReadAndWrite ∈ mTb := tmp_ (i := 5) (by decide +kernel)
theorem me_X3_addStep : mMe yX3_addStep cX3_addStep 7 none 3 := ⟨tm3 (List.mem_of_getElem? (i := 210) (by decide +kernel)) (by decide +kernel), tm1 (List.mem_of_getElem? (i := 6) (by decide +kernel)) (by decide +kernel), by decide +kernel, by decide +kernel, by decide +kernel⟩
theorem mi_X3_addStep : Cond.instanceMethod yX3_addStep ∈ mTb := tm3 (List.mem_of_getElem? (i := 209) (by decide +kernel)) (by decide +kernel)
theorem ms_X3_addStep : Cond.selects yX3_addStep.cls yX3_addStep yX3_addStep ∈ mTb := tmp_ (i := 7) (by decide +kernel)
theorem me_X3_endGroup : mMe yX3_endGroup cX3_endGroup 4 none 1 := ⟨tm3 (List.mem_of_getElem? (i := 181) (by decide +kernel)) (by decide +kernel), tm1 (List.mem_of_getElem? (i := 6) (by decide +kernel)) (by decide +kernel), by decide +kernel, by decide +kernel, by decide +kernel⟩
theorem mi_X3_endGroup : Cond.instanceMethod yX3_endGroup ∈ mTb := tm3 (List.mem_of_getElem? (i := 180) (by decide +kernel)) (by decide +kernel)
theorem ms_X3_endGroup : Cond.selects yX3_endGroup.cls yX3_endGroup yX3_endGroup ∈ mTb := tmp_ (i := 3) (by decide +kernel)
theorem me_X3_isLike : mMe yX3_isLike cX3_isLike 3 (some .boolean) 1 := ⟨tm3 (List.mem_of_getElem? (i := 227) (by decide +kernel)) (by decide +kernel), tm1 (List.mem_of_getElem? (i := 6) (by decide +kernel)) (by decide +kernel), by decide +kernel, by decide +kernel, by decide +kernel⟩
theorem mi_X3_isLike : Cond.instanceMethod yX3_isLike ∈ mTb := tm3 (List.mem_of_getElem? (i := 225) (by decide +kernel)) (by decide +kernel)
theorem ms_X3_isLike : Cond.selects yX3_isLike.cls yX3_isLike yX3_isLike ∈ mTb := tm3 (List.mem_of_getElem? (i := 226) (by decide +kernel)) (by decide +kernel)
theorem me_X3_join : mMe yX3_join cX3_join 5 none 3 := ⟨tm3 (List.mem_of_getElem? (i := 206) (by decide +kernel)) (by decide +kernel), tm1 (List.mem_of_getElem? (i := 6) (by decide +kernel)) (by decide +kernel), by decide +kernel, by decide +kernel, by decide +kernel⟩
theorem mi_X3_join : Cond.instanceMethod yX3_join ∈ mTb := tm3 (List.mem_of_getElem? (i := 205) (by decide +kernel)) (by decide +kernel)
theorem ms_X3_join : Cond.selects yX3_join.cls yX3_join yX3_join ∈ mTb := tmp_ (i := 6) (by decide +kernel)
theorem me_X3_joinsGroup : mMe yX3_joinsGroup cX3_joinsGroup 3 (some .boolean) 2 := ⟨tm3 (List.mem_of_getElem? (i := 165) (by decide +kernel)) (by decide +kernel), tm1 (List.mem_of_getElem? (i := 6) (by decide +kernel)) (by decide +kernel), by decide +kernel, by decide +kernel, by decide +kernel⟩
theorem mi_X3_joinsGroup : Cond.instanceMethod yX3_joinsGroup ∈ mTb := tm3 (List.mem_of_getElem? (i := 164) (by decide +kernel)) (by decide +kernel)
theorem ms_X3_joinsGroup : Cond.selects yX3_joinsGroup.cls yX3_joinsGroup yX3_joinsGroup ∈ mTb := tmp_ (i := 2) (by decide +kernel)
theorem me_X3_makeFrom : mMe yX3_makeFrom cX3_makeFrom 4 none 2 := ⟨tm3 (List.mem_of_getElem? (i := 161) (by decide +kernel)) (by decide +kernel), tm1 (List.mem_of_getElem? (i := 6) (by decide +kernel)) (by decide +kernel), by decide +kernel, by decide +kernel, by decide +kernel⟩
theorem mi_X3_makeFrom : Cond.instanceMethod yX3_makeFrom ∈ mTb := tm3 (List.mem_of_getElem? (i := 159) (by decide +kernel)) (by decide +kernel)
theorem ms_X3_makeFrom : Cond.selects yX3_makeFrom.cls yX3_makeFrom yX3_makeFrom ∈ mTb := tm3 (List.mem_of_getElem? (i := 160) (by decide +kernel)) (by decide +kernel)
theorem me_X3_part : mMe yX3_part cX3_part 3 (some .int) 2 := ⟨tm3 (List.mem_of_getElem? (i := 219) (by decide +kernel)) (by decide +kernel), tm1 (List.mem_of_getElem? (i := 6) (by decide +kernel)) (by decide +kernel), by decide +kernel, by decide +kernel, by decide +kernel⟩
theorem mi_X3_part : Cond.instanceMethod yX3_part ∈ mTb := tm3 (List.mem_of_getElem? (i := 217) (by decide +kernel)) (by decide +kernel)
theorem ms_X3_part : Cond.selects yX3_part.cls yX3_part yX3_part ∈ mTb := tm3 (List.mem_of_getElem? (i := 218) (by decide +kernel)) (by decide +kernel)
theorem me_X4_goesOn : mMe yX4_goesOn cX4_goesOn 2 (some .boolean) 1 := ⟨tm4 (List.mem_of_getElem? (i := 15) (by decide +kernel)) (by decide +kernel), tm1 (List.mem_of_getElem? (i := 11) (by decide +kernel)) (by decide +kernel), by decide +kernel, by decide +kernel, by decide +kernel⟩
theorem mi_X4_goesOn : Cond.instanceMethod yX4_goesOn ∈ mTb := tm4 (List.mem_of_getElem? (i := 13) (by decide +kernel)) (by decide +kernel)
theorem ms_X4_goesOn : Cond.selects yX4_goesOn.cls yX4_goesOn yX4_goesOn ∈ mTb := tm4 (List.mem_of_getElem? (i := 14) (by decide +kernel)) (by decide +kernel)
theorem me_X4_next : mMe yX4_next cX4_next 1 none 0 := ⟨tm4 (List.mem_of_getElem? (i := 49) (by decide +kernel)) (by decide +kernel), tm1 (List.mem_of_getElem? (i := 11) (by decide +kernel)) (by decide +kernel), by decide +kernel, by decide +kernel, by decide +kernel⟩
theorem mi_X4_next : Cond.instanceMethod yX4_next ∈ mTb := tm4 (List.mem_of_getElem? (i := 47) (by decide +kernel)) (by decide +kernel)
theorem ms_X4_next : Cond.selects yX4_next.cls yX4_next yX4_next ∈ mTb := tm4 (List.mem_of_getElem? (i := 48) (by decide +kernel)) (by decide +kernel)
theorem me_X4_start : mMe yX4_start cX4_start 1 none 0 := ⟨tm4 (List.mem_of_getElem? (i := 11) (by decide +kernel)) (by decide +kernel), tm1 (List.mem_of_getElem? (i := 11) (by decide +kernel)) (by decide +kernel), by decide +kernel, by decide +kernel, by decide +kernel⟩
theorem mi_X4_start : Cond.instanceMethod yX4_start ∈ mTb := tm4 (List.mem_of_getElem? (i := 9) (by decide +kernel)) (by decide +kernel)
theorem ms_X4_start : Cond.selects yX4_start.cls yX4_start yX4_start ∈ mTb := tm4 (List.mem_of_getElem? (i := 10) (by decide +kernel)) (by decide +kernel)
theorem me_X5_beat : mMe yX5_beat cX5_beat 5 none 2 := ⟨tm4 (List.mem_of_getElem? (i := 28) (by decide +kernel)) (by decide +kernel), tm1 (List.mem_of_getElem? (i := 10) (by decide +kernel)) (by decide +kernel), by decide +kernel, by decide +kernel, by decide +kernel⟩
theorem mi_X5_beat : Cond.instanceMethod yX5_beat ∈ mTb := tm4 (List.mem_of_getElem? (i := 27) (by decide +kernel)) (by decide +kernel)
theorem ms_X5_beat : Cond.selects yX5_beat.cls yX5_beat yX5_beat ∈ mTb := tmp_ (i := 10) (by decide +kernel)
theorem me_X5_calledAct : mMe yX5_calledAct cX5_calledAct 2 (some .int) 0 := ⟨tm4 (List.mem_of_getElem? (i := 23) (by decide +kernel)) (by decide +kernel), tm1 (List.mem_of_getElem? (i := 10) (by decide +kernel)) (by decide +kernel), by decide +kernel, by decide +kernel, by decide +kernel⟩
theorem mi_X5_calledAct : Cond.instanceMethod yX5_calledAct ∈ mTb := tm4 (List.mem_of_getElem? (i := 22) (by decide +kernel)) (by decide +kernel)
theorem ms_X5_calledAct : Cond.selects yX5_calledAct.cls yX5_calledAct yX5_calledAct ∈ mTb := tmp_ (i := 9) (by decide +kernel)
theorem me_X5_endPollBeat : mMe yX5_endPollBeat cX5_endPollBeat 3 none 2 := ⟨tm4 (List.mem_of_getElem? (i := 95) (by decide +kernel)) (by decide +kernel), tm1 (List.mem_of_getElem? (i := 10) (by decide +kernel)) (by decide +kernel), by decide +kernel, by decide +kernel, by decide +kernel⟩
theorem mi_X5_endPollBeat : Cond.instanceMethod yX5_endPollBeat ∈ mTb := tm4 (List.mem_of_getElem? (i := 94) (by decide +kernel)) (by decide +kernel)
theorem ms_X5_endPollBeat : Cond.selects yX5_endPollBeat.cls yX5_endPollBeat yX5_endPollBeat ∈ mTb := tmp_ (i := 20) (by decide +kernel)
theorem me_X5_numberToWrite : mMe yX5_numberToWrite cX5_numberToWrite 5 (some .int) 2 := ⟨tm4 (List.mem_of_getElem? (i := 53) (by decide +kernel)) (by decide +kernel), tm1 (List.mem_of_getElem? (i := 10) (by decide +kernel)) (by decide +kernel), by decide +kernel, by decide +kernel, by decide +kernel⟩
theorem mi_X5_numberToWrite : Cond.instanceMethod yX5_numberToWrite ∈ mTb := tm4 (List.mem_of_getElem? (i := 52) (by decide +kernel)) (by decide +kernel)
theorem ms_X5_numberToWrite : Cond.selects yX5_numberToWrite.cls yX5_numberToWrite yX5_numberToWrite ∈ mTb := tmp_ (i := 13) (by decide +kernel)
theorem me_X5_pick : mMe yX5_pick cX5_pick 4 none 2 := ⟨tm4 (List.mem_of_getElem? (i := 100) (by decide +kernel)) (by decide +kernel), tm1 (List.mem_of_getElem? (i := 10) (by decide +kernel)) (by decide +kernel), by decide +kernel, by decide +kernel, by decide +kernel⟩
theorem mi_X5_pick : Cond.instanceMethod yX5_pick ∈ mTb := tm4 (List.mem_of_getElem? (i := 99) (by decide +kernel)) (by decide +kernel)
theorem ms_X5_pick : Cond.selects yX5_pick.cls yX5_pick yX5_pick ∈ mTb := tmp_ (i := 21) (by decide +kernel)
theorem me_X5_runAct : mMe yX5_runAct cX5_runAct 4 (some .boolean) 1 := ⟨tm4 (List.mem_of_getElem? (i := 7) (by decide +kernel)) (by decide +kernel), tm1 (List.mem_of_getElem? (i := 10) (by decide +kernel)) (by decide +kernel), by decide +kernel, by decide +kernel, by decide +kernel⟩
theorem mi_X5_runAct : Cond.instanceMethod yX5_runAct ∈ mTb := tm4 (List.mem_of_getElem? (i := 5) (by decide +kernel)) (by decide +kernel)
theorem ms_X5_runAct : Cond.selects yX5_runAct.cls yX5_runAct yX5_runAct ∈ mTb := tm4 (List.mem_of_getElem? (i := 6) (by decide +kernel)) (by decide +kernel)
theorem me_X5_serve : mMe yX5_serve cX5_serve 6 none 0 := ⟨tm4 (List.mem_of_getElem? (i := 19) (by decide +kernel)) (by decide +kernel), tm1 (List.mem_of_getElem? (i := 10) (by decide +kernel)) (by decide +kernel), by decide +kernel, by decide +kernel, by decide +kernel⟩
theorem mi_X5_serve : Cond.instanceMethod yX5_serve ∈ mTb := tm4 (List.mem_of_getElem? (i := 18) (by decide +kernel)) (by decide +kernel)
theorem ms_X5_serve : Cond.selects yX5_serve.cls yX5_serve yX5_serve ∈ mTb := tmp_ (i := 8) (by decide +kernel)
theorem me_X6_bitsIn : mMe yX6_bitsIn cX6_bitsIn 2 (some .int) 1 := ⟨tm4 (List.mem_of_getElem? (i := 65) (by decide +kernel)) (by decide +kernel), tm1 (List.mem_of_getElem? (i := 3) (by decide +kernel)) (by decide +kernel), by decide +kernel, by decide +kernel, by decide +kernel⟩
theorem mi_X6_bitsIn : Cond.instanceMethod yX6_bitsIn ∈ mTb := tm4 (List.mem_of_getElem? (i := 63) (by decide +kernel)) (by decide +kernel)
theorem ms_X6_bitsIn : Cond.selects yX6_bitsIn.cls yX6_bitsIn yX6_bitsIn ∈ mTb := tm4 (List.mem_of_getElem? (i := 64) (by decide +kernel)) (by decide +kernel)
theorem me_X6_isKept : mMe yX6_isKept cX6_isKept 1 (some .boolean) 0 := ⟨tm3 (List.mem_of_getElem? (i := 47) (by decide +kernel)) (by decide +kernel), tm1 (List.mem_of_getElem? (i := 3) (by decide +kernel)) (by decide +kernel), by decide +kernel, by decide +kernel, by decide +kernel⟩
theorem mi_X6_isKept : Cond.instanceMethod yX6_isKept ∈ mTb := tm3 (List.mem_of_getElem? (i := 45) (by decide +kernel)) (by decide +kernel)
theorem ms_X6_isKept : Cond.selects yX6_isKept.cls yX6_isKept yX6_isKept ∈ mTb := tm3 (List.mem_of_getElem? (i := 46) (by decide +kernel)) (by decide +kernel)
theorem me_X7_binds : mMe yX7_binds cX7_binds 3 (some .boolean) 2 := ⟨tm3 (List.mem_of_getElem? (i := 176) (by decide +kernel)) (by decide +kernel), tm1 (List.mem_of_getElem? (i := 4) (by decide +kernel)) (by decide +kernel), by decide +kernel, by decide +kernel, by decide +kernel⟩
theorem mi_X7_binds : Cond.instanceMethod yX7_binds ∈ mTb := tm3 (List.mem_of_getElem? (i := 174) (by decide +kernel)) (by decide +kernel)
theorem ms_X7_binds : Cond.selects yX7_binds.cls yX7_binds yX7_binds ∈ mTb := tm3 (List.mem_of_getElem? (i := 175) (by decide +kernel)) (by decide +kernel)
theorem me_X8_blank : mMe yX8_blank cX8_blank 1 none 0 := ⟨tm3 (List.mem_of_getElem? (i := 35) (by decide +kernel)) (by decide +kernel), tm1 (List.mem_of_getElem? (i := 7) (by decide +kernel)) (by decide +kernel), by decide +kernel, by decide +kernel, by decide +kernel⟩
theorem mi_X8_blank : Cond.instanceMethod yX8_blank ∈ mTb := tm3 (List.mem_of_getElem? (i := 33) (by decide +kernel)) (by decide +kernel)
theorem ms_X8_blank : Cond.selects yX8_blank.cls yX8_blank yX8_blank ∈ mTb := tm3 (List.mem_of_getElem? (i := 34) (by decide +kernel)) (by decide +kernel)
theorem me_X8_countBreak : mMe yX8_countBreak cX8_countBreak 2 none 1 := ⟨tm4 (List.mem_of_getElem? (i := 83) (by decide +kernel)) (by decide +kernel), tm1 (List.mem_of_getElem? (i := 7) (by decide +kernel)) (by decide +kernel), by decide +kernel, by decide +kernel, by decide +kernel⟩
theorem mi_X8_countBreak : Cond.instanceMethod yX8_countBreak ∈ mTb := tm4 (List.mem_of_getElem? (i := 81) (by decide +kernel)) (by decide +kernel)
theorem ms_X8_countBreak : Cond.selects yX8_countBreak.cls yX8_countBreak yX8_countBreak ∈ mTb := tm4 (List.mem_of_getElem? (i := 82) (by decide +kernel)) (by decide +kernel)
theorem me_X8_takeFrom : mMe yX8_takeFrom cX8_takeFrom 2 none 1 := ⟨tm4 (List.mem_of_getElem? (i := 151) (by decide +kernel)) (by decide +kernel), tm1 (List.mem_of_getElem? (i := 7) (by decide +kernel)) (by decide +kernel), by decide +kernel, by decide +kernel, by decide +kernel⟩
theorem mi_X8_takeFrom : Cond.instanceMethod yX8_takeFrom ∈ mTb := tm4 (List.mem_of_getElem? (i := 149) (by decide +kernel)) (by decide +kernel)
theorem ms_X8_takeFrom : Cond.selects yX8_takeFrom.cls yX8_takeFrom yX8_takeFrom ∈ mTb := tm4 (List.mem_of_getElem? (i := 150) (by decide +kernel)) (by decide +kernel)
theorem me_X8_tellEvent : mMe yX8_tellEvent cX8_tellEvent 5 none 3 := ⟨tm3 (List.mem_of_getElem? (i := 239) (by decide +kernel)) (by decide +kernel), tm1 (List.mem_of_getElem? (i := 7) (by decide +kernel)) (by decide +kernel), by decide +kernel, by decide +kernel, by decide +kernel⟩
theorem mi_X8_tellEvent : Cond.instanceMethod yX8_tellEvent ∈ mTb := tm3 (List.mem_of_getElem? (i := 237) (by decide +kernel)) (by decide +kernel)
theorem ms_X8_tellEvent : Cond.selects yX8_tellEvent.cls yX8_tellEvent yX8_tellEvent ∈ mTb := tm3 (List.mem_of_getElem? (i := 238) (by decide +kernel)) (by decide +kernel)
theorem me_X9_hasPlace : mMe yX9_hasPlace cX9_hasPlace 2 (some .boolean) 1 := ⟨tm5 (List.mem_of_getElem? (i := 65) (by decide +kernel)) (by decide +kernel), tm1 (List.mem_of_getElem? (i := 13) (by decide +kernel)) (by decide +kernel), by decide +kernel, by decide +kernel, by decide +kernel⟩
theorem mi_X9_hasPlace : Cond.instanceMethod yX9_hasPlace ∈ mTb := tm5 (List.mem_of_getElem? (i := 63) (by decide +kernel)) (by decide +kernel)
theorem ms_X9_hasPlace : Cond.selects yX9_hasPlace.cls yX9_hasPlace yX9_hasPlace ∈ mTb := tm5 (List.mem_of_getElem? (i := 64) (by decide +kernel)) (by decide +kernel)
theorem me_X9_hasPlaces : mMe yX9_hasPlaces cX9_hasPlaces 3 (some .boolean) 2 := ⟨tm5 (List.mem_of_getElem? (i := 89) (by decide +kernel)) (by decide +kernel), tm1 (List.mem_of_getElem? (i := 13) (by decide +kernel)) (by decide +kernel), by decide +kernel, by decide +kernel, by decide +kernel⟩
theorem mi_X9_hasPlaces : Cond.instanceMethod yX9_hasPlaces ∈ mTb := tm5 (List.mem_of_getElem? (i := 87) (by decide +kernel)) (by decide +kernel)
theorem ms_X9_hasPlaces : Cond.selects yX9_hasPlaces.cls yX9_hasPlaces yX9_hasPlaces ∈ mTb := tm5 (List.mem_of_getElem? (i := 88) (by decide +kernel)) (by decide +kernel)
theorem me_X9_holdsRow : mMe yX9_holdsRow cX9_holdsRow 1 (some .boolean) 0 := ⟨tm5 (List.mem_of_getElem? (i := 77) (by decide +kernel)) (by decide +kernel), tm1 (List.mem_of_getElem? (i := 13) (by decide +kernel)) (by decide +kernel), by decide +kernel, by decide +kernel, by decide +kernel⟩
theorem mi_X9_holdsRow : Cond.instanceMethod yX9_holdsRow ∈ mTb := tm5 (List.mem_of_getElem? (i := 75) (by decide +kernel)) (by decide +kernel)
theorem ms_X9_holdsRow : Cond.selects yX9_holdsRow.cls yX9_holdsRow yX9_holdsRow ∈ mTb := tm5 (List.mem_of_getElem? (i := 76) (by decide +kernel)) (by decide +kernel)
theorem me_X9_narrowed : mMe yX9_narrowed cX9_narrowed 3 (some .long) 1 := ⟨tm5 (List.mem_of_getElem? (i := 81) (by decide +kernel)) (by decide +kernel), tm1 (List.mem_of_getElem? (i := 13) (by decide +kernel)) (by decide +kernel), by decide +kernel, by decide +kernel, by decide +kernel⟩
theorem mi_X9_narrowed : Cond.instanceMethod yX9_narrowed ∈ mTb := tm5 (List.mem_of_getElem? (i := 79) (by decide +kernel)) (by decide +kernel)
theorem ms_X9_narrowed : Cond.selects yX9_narrowed.cls yX9_narrowed yX9_narrowed ∈ mTb := tm5 (List.mem_of_getElem? (i := 80) (by decide +kernel)) (by decide +kernel)
theorem me_X9_takeImage : mMe yX9_takeImage cX9_takeImage 3 none 2 := ⟨tm4 (List.mem_of_getElem? (i := 215) (by decide +kernel)) (by decide +kernel), tm1 (List.mem_of_getElem? (i := 13) (by decide +kernel)) (by decide +kernel), by decide +kernel, by decide +kernel, by decide +kernel⟩
theorem mi_X9_takeImage : Cond.instanceMethod yX9_takeImage ∈ mTb := tm4 (List.mem_of_getElem? (i := 213) (by decide +kernel)) (by decide +kernel)
theorem ms_X9_takeImage : Cond.selects yX9_takeImage.cls yX9_takeImage yX9_takeImage ∈ mTb := tm4 (List.mem_of_getElem? (i := 214) (by decide +kernel)) (by decide +kernel)
theorem me_X9_takeRow : mMe yX9_takeRow cX9_takeRow 3 none 2 := ⟨tm4 (List.mem_of_getElem? (i := 206) (by decide +kernel)) (by decide +kernel), tm1 (List.mem_of_getElem? (i := 13) (by decide +kernel)) (by decide +kernel), by decide +kernel, by decide +kernel, by decide +kernel⟩
theorem mi_X9_takeRow : Cond.instanceMethod yX9_takeRow ∈ mTb := tm4 (List.mem_of_getElem? (i := 204) (by decide +kernel)) (by decide +kernel)
theorem ms_X9_takeRow : Cond.selects yX9_takeRow.cls yX9_takeRow yX9_takeRow ∈ mTb := tm4 (List.mem_of_getElem? (i := 205) (by decide +kernel)) (by decide +kernel)
theorem vi_RX11_61 : mVi RX11 61 yX1_startAnew 1 := ⟨1, TX1, cls_1, rfl, by decide, tm3 (List.mem_of_getElem? (i := 20) (by decide +kernel)) (by decide +kernel), mi_X1_startAnew, ms_X1_startAnew⟩
theorem vi_RX11_65 : mVi RX11 65 yX10_forget 10 := ⟨10, TX10, cls_10, rfl, by decide, tm3 (List.mem_of_getElem? (i := 24) (by decide +kernel)) (by decide +kernel), mi_X10_forget, ms_X10_forget⟩
theorem vi_RX11_68 : mVi RX11 68 yX2_powerUp 2 := ⟨2, TX2, cls_2, rfl, by decide, tm3 (List.mem_of_getElem? (i := 28) (by decide +kernel)) (by decide +kernel), mi_X2_powerUp, ms_X2_powerUp⟩
theorem vi_RX11_71 : mVi RX11 71 yX1_hasRegister 1 := ⟨1, TX1, cls_1, rfl, by decide, tm3 (List.mem_of_getElem? (i := 52) (by decide +kernel)) (by decide +kernel), mi_X1_hasRegister, ms_X1_hasRegister⟩
theorem si_RX11_77 : mSi RX11 77 yX11_fits := ⟨Or.inl (tm3 (List.mem_of_getElem? (i := 56) (by decide +kernel)) (by decide +kernel)), tm3 (List.mem_of_getElem? (i := 57) (by decide +kernel)) (by decide +kernel)⟩
theorem vi_RX11_81 : mVi RX11 81 yX1_bitsOfAll 1 := ⟨1, TX1, cls_1, rfl, by decide, tm3 (List.mem_of_getElem? (i := 59) (by decide +kernel)) (by decide +kernel), mi_X1_bitsOfAll, ms_X1_bitsOfAll⟩
theorem vi_RX11_88 : mVi RX11 88 yX1_tellField 1 := ⟨1, TX1, cls_1, rfl, by decide, tm3 (List.mem_of_getElem? (i := 63) (by decide +kernel)) (by decide +kernel), mi_X1_tellField, ms_X1_tellField⟩
theorem vi_RX11_92 : mVi RX11 92 yX1_hasField 1 := ⟨1, TX1, cls_1, rfl, by decide, tm3 (List.mem_of_getElem? (i := 71) (by decide +kernel)) (by decide +kernel), mi_X1_hasField, ms_X1_hasField⟩
theorem vi_RX11_102 : mVi RX11 102 yX1_changePeriod 1 := ⟨1, TX1, cls_1, rfl, by decide, tm3 (List.mem_of_getElem? (i := 75) (by decide +kernel)) (by decide +kernel), mi_X1_changePeriod, ms_X1_changePeriod⟩
theorem vi_RX11_106 : mVi RX11 106 yX1_changeDone 1 := ⟨1, TX1, cls_1, rfl, by decide, tm3 (List.mem_of_getElem? (i := 83) (by decide +kernel)) (by decide +kernel), mi_X1_changeDone, ms_X1_changeDone⟩
theorem vi_RX11_114 : mVi RX11 114 yX1_tellLaw 1 := ⟨1, TX1, cls_1, rfl, by decide, tm3 (List.mem_of_getElem? (i := 91) (by decide +kernel)) (by decide +kernel), mi_X1_tellLaw, ms_X1_tellLaw⟩
theorem vi_RX11_121 : mVi RX11 121 yX1_tellAct 1 := ⟨1, TX1, cls_1, rfl, by decide, tm3 (List.mem_of_getElem? (i := 99) (by decide +kernel)) (by decide +kernel), mi_X1_tellAct, ms_X1_tellAct⟩
theorem vi_RX11_125 : mVi RX11 125 yX1_hasAct 1 := ⟨1, TX1, cls_1, rfl, by decide, tm3 (List.mem_of_getElem? (i := 107) (by decide +kernel)) (by decide +kernel), mi_X1_hasAct, ms_X1_hasAct⟩
theorem vi_RX11_130 : mVi RX11 130 yX11_isStepNumber 11 := ⟨11, TX11, cls_11, rfl, by decide, tm3 (List.mem_of_getElem? (i := 111) (by decide +kernel)) (by decide +kernel), mi_X11_isStepNumber, ms_X11_isStepNumber⟩
theorem si_RX11_134 : mSi RX11 134 yX11_allowsStep := ⟨Or.inl (tm3 (List.mem_of_getElem? (i := 115) (by decide +kernel)) (by decide +kernel)), tm3 (List.mem_of_getElem? (i := 116) (by decide +kernel)) (by decide +kernel)⟩
theorem vi_RX11_144 : mVi RX11 144 yX1_tellStep 1 := ⟨1, TX1, cls_1, rfl, by decide, tm3 (List.mem_of_getElem? (i := 118) (by decide +kernel)) (by decide +kernel), mi_X1_tellStep, ms_X1_tellStep⟩
theorem vi_RX11_147 : mVi RX11 147 yX1_dropSteps 1 := ⟨1, TX1, cls_1, rfl, by decide, tm3 (List.mem_of_getElem? (i := 130) (by decide +kernel)) (by decide +kernel), mi_X1_dropSteps, ms_X1_dropSteps⟩
theorem vi_RX11_150 : mVi RX11 150 yX1_changeHandler 1 := ⟨1, TX1, cls_1, rfl, by decide, tm3 (List.mem_of_getElem? (i := 138) (by decide +kernel)) (by decide +kernel), mi_X1_changeHandler, ms_X1_changeHandler⟩
theorem vi_RX11_153 : mVi RX11 153 yX1_changeLocks 1 := ⟨1, TX1, cls_1, rfl, by decide, tm3 (List.mem_of_getElem? (i := 146) (by decide +kernel)) (by decide +kernel), mi_X1_changeLocks, ms_X1_changeLocks⟩
theorem vi_RX11_156 : mVi RX11 156 yX1_makeCode 1 := ⟨1, TX1, cls_1, rfl, by decide, tm3 (List.mem_of_getElem? (i := 154) (by decide +kernel)) (by decide +kernel), mi_X1_makeCode, ms_X1_makeCode⟩
theorem vi_RX11_168 : mVi RX11 168 yX3_part 3 := ⟨3, TX3, cls_3, rfl, by decide, tm3 (List.mem_of_getElem? (i := 216) (by decide +kernel)) (by decide +kernel), mi_X3_part, ms_X3_part⟩
theorem vi_RX11_171 : mVi RX11 171 yX3_isLike 3 := ⟨3, TX3, cls_3, rfl, by decide, tm3 (List.mem_of_getElem? (i := 224) (by decide +kernel)) (by decide +kernel), mi_X3_isLike, ms_X3_isLike⟩
theorem vi_RX11_185 : mVi RX11 185 yX8_tellEvent 8 := ⟨8, TX8, cls_8, rfl, by decide, tm3 (List.mem_of_getElem? (i := 236) (by decide +kernel)) (by decide +kernel), mi_X8_tellEvent, ms_X8_tellEvent⟩
theorem vi_RX11_189 : mVi RX11 189 yX5_runAct 5 := ⟨5, TX5, cls_5, rfl, by decide, tm4 (List.mem_of_getElem? (i := 4) (by decide +kernel)) (by decide +kernel), mi_X5_runAct, ms_X5_runAct⟩
theorem si_RX11_192 : mSi RX11 192 yX11_nearestInt := ⟨Or.inl (tm4 (List.mem_of_getElem? (i := 102) (by decide +kernel)) (by decide +kernel)), tm4 (List.mem_of_getElem? (i := 103) (by decide +kernel)) (by decide +kernel)⟩
theorem vi_RX11_196 : mVi RX11 196 yX2_readRegister 2 := ⟨2, TX2, cls_2, rfl, by decide, tm4 (List.mem_of_getElem? (i := 113) (by decide +kernel)) (by decide +kernel), mi_X2_readRegister, ms_X2_readRegister⟩
theorem vi_RX11_200 : mVi RX11 200 yX2_writeRegister 2 := ⟨2, TX2, cls_2, rfl, by decide, tm4 (List.mem_of_getElem? (i := 118) (by decide +kernel)) (by decide +kernel), mi_X2_writeRegister, ms_X2_writeRegister⟩
theorem vi_RX11_204 : mVi RX11 204 yX2_tick 2 := ⟨2, TX2, cls_2, rfl, by decide, tm4 (List.mem_of_getElem? (i := 123) (by decide +kernel)) (by decide +kernel), mi_X2_tick, ms_X2_tick⟩
theorem vi_RX11_238 : mVi RX11 238 yX10_keepStart 10 := ⟨10, TX10, cls_10, rfl, by decide, tm4 (List.mem_of_getElem? (i := 144) (by decide +kernel)) (by decide +kernel), mi_X10_keepStart, ms_X10_keepStart⟩
theorem vi_RX11_241 : mVi RX11 241 yX10_firstUnwell 10 := ⟨10, TX10, cls_10, rfl, by decide, tm4 (List.mem_of_getElem? (i := 155) (by decide +kernel)) (by decide +kernel), mi_X10_firstUnwell, ms_X10_firstUnwell⟩
theorem vi_RX11_244 : mVi RX11 244 yX10_restoreStart 10 := ⟨10, TX10, cls_10, rfl, by decide, tm4 (List.mem_of_getElem? (i := 187) (by decide +kernel)) (by decide +kernel), mi_X10_restoreStart, ms_X10_restoreStart⟩
theorem si_RX11_253 : mSi RX11 253 yX11_isTape := ⟨Or.inl (tm4 (List.mem_of_getElem? (i := 196) (by decide +kernel)) (by decide +kernel)), tm4 (List.mem_of_getElem? (i := 197) (by decide +kernel)) (by decide +kernel)⟩
theorem vi_RX11_256 : mVi RX11 256 yX11_hostRefuses 11 := ⟨11, TX11, cls_11, rfl, by decide, tm4 (List.mem_of_getElem? (i := 199) (by decide +kernel)) (by decide +kernel), mi_X11_hostRefuses, ms_X11_hostRefuses⟩
theorem vi_RX11_259 : mVi RX11 259 yX9_takeRow 9 := ⟨9, TX9, cls_9, rfl, by decide, tm4 (List.mem_of_getElem? (i := 203) (by decide +kernel)) (by decide +kernel), mi_X9_takeRow, ms_X9_takeRow⟩
theorem vi_RX11_265 : mVi RX11 265 yX9_takeImage 9 := ⟨9, TX9, cls_9, rfl, by decide, tm4 (List.mem_of_getElem? (i := 212) (by decide +kernel)) (by decide +kernel), mi_X9_takeImage, ms_X9_takeImage⟩
theorem vi_RX11_276 : mVi RX11 276 yX8_takeFrom 8 := ⟨8, TX8, cls_8, rfl, by decide, tm4 (List.mem_of_getElem? (i := 221) (by decide +kernel)) (by decide +kernel), mi_X8_takeFrom, ms_X8_takeFrom⟩
theorem vi_RX11_285 : mVi RX11 285 yX9_hasPlace 9 := ⟨9, TX9, cls_9, rfl, by decide, tm5 (List.mem_of_getElem? (i := 62) (by decide +kernel)) (by decide +kernel), mi_X9_hasPlace, ms_X9_hasPlace⟩
theorem vi_RX11_292 : mVi RX11 292 yX9_holdsRow 9 := ⟨9, TX9, cls_9, rfl, by decide, tm5 (List.mem_of_getElem? (i := 74) (by decide +kernel)) (by decide +kernel), mi_X9_holdsRow, ms_X9_holdsRow⟩
theorem vi_RX11_296 : mVi RX11 296 yX9_narrowed 9 := ⟨9, TX9, cls_9, rfl, by decide, tm5 (List.mem_of_getElem? (i := 78) (by decide +kernel)) (by decide +kernel), mi_X9_narrowed, ms_X9_narrowed⟩
theorem vi_RX11_310 : mVi RX11 310 yX9_hasPlaces 9 := ⟨9, TX9, cls_9, rfl, by decide, tm5 (List.mem_of_getElem? (i := 86) (by decide +kernel)) (by decide +kernel), mi_X9_hasPlaces, ms_X9_hasPlaces⟩
theorem vi_RX1_98 : mVi RX1 98 yX0_append 0 := ⟨0, TX0, cls_0, rfl, by decide, tm3 (List.mem_of_getElem? (i := 122) (by decide +kernel)) (by decide +kernel), mi_X0_append, ms_X0_append⟩
theorem vi_RX1_102 : mVi RX1 102 yX6_isKept 6 := ⟨6, TX6, cls_6, rfl, by decide, tm3 (List.mem_of_getElem? (i := 186) (by decide +kernel)) (by decide +kernel), mi_X6_isKept, ms_X6_isKept⟩
theorem vi_RX1_106 : mVi RX1 106 yX7_binds 7 := ⟨7, TX7, cls_7, rfl, by decide, tm3 (List.mem_of_getElem? (i := 173) (by decide +kernel)) (by decide +kernel), mi_X7_binds, ms_X7_binds⟩
theorem vi_RX1_114 : mVi RX1 114 yX3_makeFrom 3 := ⟨3, TX3, cls_3, rfl, by decide, tm3 (List.mem_of_getElem? (i := 158) (by decide +kernel)) (by decide +kernel), mi_X3_makeFrom, ms_X3_makeFrom⟩
theorem vi_RX2_38 : mVi RX2 38 yX8_blank 8 := ⟨8, TX8, cls_8, rfl, by decide, tm3 (List.mem_of_getElem? (i := 32) (by decide +kernel)) (by decide +kernel), mi_X8_blank, ms_X8_blank⟩
theorem si_RX2_43 : mSi RX2 43 yJ7_fill_53178 := ⟨Or.inl (tm3 (List.mem_of_getElem? (i := 39) (by decide +kernel)) (by decide +kernel)), tm3 (List.mem_of_getElem? (i := 37) (by decide +kernel)) (by decide +kernel)⟩
theorem vi_RX2_58 : mVi RX2 58 yX2_sortIn 2 := ⟨2, TX2, cls_2, rfl, by decide, tm3 (List.mem_of_getElem? (i := 40) (by decide +kernel)) (by decide +kernel), mi_X2_sortIn, ms_X2_sortIn⟩
theorem vi_RX2_73 : mVi RX2 73 yX6_isKept 6 := ⟨6, TX6, cls_6, rfl, by decide, tm3 (List.mem_of_getElem? (i := 44) (by decide +kernel)) (by decide +kernel), mi_X6_isKept, ms_X6_isKept⟩
theorem vi_RX2_99 : mVi RX2 99 yX2_endPulse 2 := ⟨2, TX2, cls_2, rfl, by decide, tm4 (List.mem_of_getElem? (i := 38) (by decide +kernel)) (by decide +kernel), mi_X2_endPulse, ms_X2_endPulse⟩
theorem vi_RX2_106 : mVi RX2 106 yX2_fireEvents 2 := ⟨2, TX2, cls_2, rfl, by decide, tm4 (List.mem_of_getElem? (i := 42) (by decide +kernel)) (by decide +kernel), mi_X2_fireEvents, ms_X2_fireEvents⟩
theorem vi_RX2_128 : mVi RX2 128 yX2_tick 2 := ⟨2, TX2, cls_2, rfl, by decide, tm4 (List.mem_of_getElem? (i := 34) (by decide +kernel)) (by decide +kernel), mi_X2_tick, ms_X2_tick⟩
theorem vi_RX2_131 : mVi RX2 131 yX2_hitsOf 2 := ⟨2, TX2, cls_2, rfl, by decide, tm4 (List.mem_of_getElem? (i := 58) (by decide +kernel)) (by decide +kernel), mi_X2_hitsOf, ms_X2_hitsOf⟩
theorem vi_RX2_135 : mVi RX2 135 yX2_lookAtLaws 2 := ⟨2, TX2, cls_2, rfl, by decide, tm4 (List.mem_of_getElem? (i := 70) (by decide +kernel)) (by decide +kernel), mi_X2_lookAtLaws, ms_X2_lookAtLaws⟩
theorem si_RX2_138 : mSi RX2 138 yX11_isIn := ⟨Or.inr ⟨"DriverBook", by decide +kernel⟩, tm3 (List.mem_of_getElem? (i := 167) (by decide +kernel)) (by decide +kernel)⟩
theorem vi_RX2_145 : mVi RX2 145 yX6_bitsIn 6 := ⟨6, TX6, cls_6, rfl, by decide, tm4 (List.mem_of_getElem? (i := 62) (by decide +kernel)) (by decide +kernel), mi_X6_bitsIn, ms_X6_bitsIn⟩
theorem vi_RX2_149 : mVi RX2 149 yX2_writeField 2 := ⟨2, TX2, cls_2, rfl, by decide, tm4 (List.mem_of_getElem? (i := 84) (by decide +kernel)) (by decide +kernel), mi_X2_writeField, ms_X2_writeField⟩
theorem vi_RX2_153 : mVi RX2 153 yX2_isHit 2 := ⟨2, TX2, cls_2, rfl, by decide, tm4 (List.mem_of_getElem? (i := 66) (by decide +kernel)) (by decide +kernel), mi_X2_isHit, ms_X2_isHit⟩
theorem vi_RX2_168 : mVi RX2 168 yX2_isBroken 2 := ⟨2, TX2, cls_2, rfl, by decide, tm4 (List.mem_of_getElem? (i := 75) (by decide +kernel)) (by decide +kernel), mi_X2_isBroken, ms_X2_isBroken⟩
theorem vi_RX2_172 : mVi RX2 172 yX8_countBreak 8 := ⟨8, TX8, cls_8, rfl, by decide, tm4 (List.mem_of_getElem? (i := 80) (by decide +kernel)) (by decide +kernel), mi_X8_countBreak, ms_X8_countBreak⟩
theorem vi_RX2_187 : mVi RX2 187 yX2_loadHeld 2 := ⟨2, TX2, cls_2, rfl, by decide, tm4 (List.mem_of_getElem? (i := 88) (by decide +kernel)) (by decide +kernel), mi_X2_loadHeld, ms_X2_loadHeld⟩
theorem vi_RX3_42 : mVi RX3 42 yX3_joinsGroup 3 := ⟨3, TX3, cls_3, rfl, by decide, tm3 (List.mem_of_getElem? (i := 162) (by decide +kernel)) (by decide +kernel), mi_X3_joinsGroup, ms_X3_joinsGroup⟩
theorem vi_RX3_46 : mVi RX3 46 yX3_endGroup 3 := ⟨3, TX3, cls_3, rfl, by decide, tm3 (List.mem_of_getElem? (i := 178) (by decide +kernel)) (by decide +kernel), mi_X3_endGroup, ms_X3_endGroup⟩
theorem vi_RX3_53 : mVi RX3 53 yX3_join 3 := ⟨3, TX3, cls_3, rfl, by decide, tm3 (List.mem_of_getElem? (i := 203) (by decide +kernel)) (by decide +kernel), mi_X3_join, ms_X3_join⟩
theorem vi_RX3_57 : mVi RX3 57 yX3_addStep 3 := ⟨3, TX3, cls_3, rfl, by decide, tm3 (List.mem_of_getElem? (i := 207) (by decide +kernel)) (by decide +kernel), mi_X3_addStep, ms_X3_addStep⟩
theorem si_RX3_72 : mSi RX3 72 yX11_isIn := ⟨Or.inr ⟨"DriverBook", by decide +kernel⟩, tm3 (List.mem_of_getElem? (i := 167) (by decide +kernel)) (by decide +kernel)⟩
theorem vi_RX3_76 : mVi RX3 76 yX1_isBound 1 := ⟨1, TX1, cls_1, rfl, by decide, tm3 (List.mem_of_getElem? (i := 169) (by decide +kernel)) (by decide +kernel), mi_X1_isBound, ms_X1_isBound⟩
theorem vi_RX3_85 : mVi RX3 85 yX1_bitsOfKept 1 := ⟨1, TX1, cls_1, rfl, by decide, tm3 (List.mem_of_getElem? (i := 182) (by decide +kernel)) (by decide +kernel), mi_X1_bitsOfKept, ms_X1_bitsOfKept⟩
theorem vi_RX3_89 : mVi RX3 89 yX3_add 3 := ⟨3, TX3, cls_3, rfl, by decide, tm3 (List.mem_of_getElem? (i := 187) (by decide +kernel)) (by decide +kernel), mi_X3_add, ms_X3_add⟩
theorem vi_RX3_93 : mVi RX3 93 yX1_isShadowed 1 := ⟨1, TX1, cls_1, rfl, by decide, tm3 (List.mem_of_getElem? (i := 191) (by decide +kernel)) (by decide +kernel), mi_X1_isShadowed, ms_X1_isShadowed⟩
theorem vi_RX3_100 : mVi RX3 100 yX1_hasHandlers 1 := ⟨1, TX1, cls_1, rfl, by decide, tm3 (List.mem_of_getElem? (i := 195) (by decide +kernel)) (by decide +kernel), mi_X1_hasHandlers, ms_X1_hasHandlers⟩
theorem vi_RX3_104 : mVi RX3 104 yX3_addReadAndWrite 3 := ⟨3, TX3, cls_3, rfl, by decide, tm3 (List.mem_of_getElem? (i := 199) (by decide +kernel)) (by decide +kernel), mi_X3_addReadAndWrite, ms_X3_addReadAndWrite⟩
theorem vi_RX3_108 : mVi RX3 108 yX1_hasField 1 := ⟨1, TX1, cls_1, rfl, by decide, tm3 (List.mem_of_getElem? (i := 211) (by decide +kernel)) (by decide +kernel), mi_X1_hasField, ms_X1_hasField⟩
theorem vi_RX5_51 : mVi RX5 51 yX4_start 4 := ⟨4, TX4, cls_4, rfl, by decide, tm4 (List.mem_of_getElem? (i := 8) (by decide +kernel)) (by decide +kernel), mi_X4_start, ms_X4_start⟩
theorem vi_RX5_54 : mVi RX5 54 yX4_goesOn 4 := ⟨4, TX4, cls_4, rfl, by decide, tm4 (List.mem_of_getElem? (i := 12) (by decide +kernel)) (by decide +kernel), mi_X4_goesOn, ms_X4_goesOn⟩
theorem vi_RX5_58 : mVi RX5 58 yX5_serve 5 := ⟨5, TX5, cls_5, rfl, by decide, tm4 (List.mem_of_getElem? (i := 16) (by decide +kernel)) (by decide +kernel), mi_X5_serve, ms_X5_serve⟩
theorem vi_RX5_61 : mVi RX5 61 yX5_beat 5 := ⟨5, TX5, cls_5, rfl, by decide, tm4 (List.mem_of_getElem? (i := 25) (by decide +kernel)) (by decide +kernel), mi_X5_beat, ms_X5_beat⟩
theorem vi_RX5_68 : mVi RX5 68 yX5_calledAct 5 := ⟨5, TX5, cls_5, rfl, by decide, tm4 (List.mem_of_getElem? (i := 20) (by decide +kernel)) (by decide +kernel), mi_X5_calledAct, ms_X5_calledAct⟩
theorem vi_RX5_72 : mVi RX5 72 yX1_hasAct 1 := ⟨1, TX1, cls_1, rfl, by decide, tm4 (List.mem_of_getElem? (i := 24) (by decide +kernel)) (by decide +kernel), mi_X1_hasAct, ms_X1_hasAct⟩
theorem vi_RX5_104 : mVi RX5 104 yX3_part 3 := ⟨3, TX3, cls_3, rfl, by decide, tm4 (List.mem_of_getElem? (i := 29) (by decide +kernel)) (by decide +kernel), mi_X3_part, ms_X3_part⟩
theorem vi_RX5_108 : mVi RX5 108 yX2_readRegister 2 := ⟨2, TX2, cls_2, rfl, by decide, tm4 (List.mem_of_getElem? (i := 30) (by decide +kernel)) (by decide +kernel), mi_X2_readRegister, ms_X2_readRegister⟩
theorem vi_RX5_117 : mVi RX5 117 yX4_next 4 := ⟨4, TX4, cls_4, rfl, by decide, tm4 (List.mem_of_getElem? (i := 46) (by decide +kernel)) (by decide +kernel), mi_X4_next, ms_X4_next⟩
theorem vi_RX5_120 : mVi RX5 120 yX5_numberToWrite 5 := ⟨5, TX5, cls_5, rfl, by decide, tm4 (List.mem_of_getElem? (i := 50) (by decide +kernel)) (by decide +kernel), mi_X5_numberToWrite, ms_X5_numberToWrite⟩
theorem vi_RX5_130 : mVi RX5 130 yX2_writeRegister 2 := ⟨2, TX2, cls_2, rfl, by decide, tm4 (List.mem_of_getElem? (i := 54) (by decide +kernel)) (by decide +kernel), mi_X2_writeRegister, ms_X2_writeRegister⟩
theorem vi_RX5_134 : mVi RX5 134 yX5_endPollBeat 5 := ⟨5, TX5, cls_5, rfl, by decide, tm4 (List.mem_of_getElem? (i := 92) (by decide +kernel)) (by decide +kernel), mi_X5_endPollBeat, ms_X5_endPollBeat⟩
theorem vi_RX5_137 : mVi RX5 137 yX2_tick 2 := ⟨2, TX2, cls_2, rfl, by decide, tm4 (List.mem_of_getElem? (i := 96) (by decide +kernel)) (by decide +kernel), mi_X2_tick, ms_X2_tick⟩
theorem vi_RX5_143 : mVi RX5 143 yX5_pick 5 := ⟨5, TX5, cls_5, rfl, by decide, tm4 (List.mem_of_getElem? (i := 97) (by decide +kernel)) (by decide +kernel), mi_X5_pick, ms_X5_pick⟩
theorem vi_RX5_152 : mVi RX5 152 yX6_bitsIn 6 := ⟨6, TX6, cls_6, rfl, by decide, tm4 (List.mem_of_getElem? (i := 101) (by decide +kernel)) (by decide +kernel), mi_X6_bitsIn, ms_X6_bitsIn⟩
theorem si_RX7_16 : mSi RX7 16 yX11_isIn := ⟨Or.inr ⟨"DriverBook", by decide +kernel⟩, tm3 (List.mem_of_getElem? (i := 167) (by decide +kernel)) (by decide +kernel)⟩
theorem si_RX8_65 : mSi RX8 65 yJ7_fill_d0a16 := ⟨Or.inl (tm2 (List.mem_of_getElem? (i := 3) (by decide +kernel)) (by decide +kernel)), tm2 (List.mem_of_getElem? (i := 4) (by decide +kernel)) (by decide +kernel)⟩
theorem si_RX8_71 : mSi RX8 71 yJ7_fill_53178 := ⟨Or.inl (tm3 (List.mem_of_getElem? (i := 36) (by decide +kernel)) (by decide +kernel)), tm3 (List.mem_of_getElem? (i := 37) (by decide +kernel)) (by decide +kernel)⟩
theorem si_RX9_32 : mSi RX9 32 yJ7_fill_d0a16 := ⟨Or.inl (tm4 (List.mem_of_getElem? (i := 207) (by decide +kernel)) (by decide +kernel)), tm2 (List.mem_of_getElem? (i := 4) (by decide +kernel)) (by decide +kernel)⟩
theorem vi_RX9_38 : mVi RX9 38 yX8_takeFrom 8 := ⟨8, TX8, cls_8, rfl, by decide, tm4 (List.mem_of_getElem? (i := 216) (by decide +kernel)) (by decide +kernel), mi_X8_takeFrom, ms_X8_takeFrom⟩
theorem vi_RX10_43 : mVi RX10 43 yX8_takeFrom 8 := ⟨8, TX8, cls_8, rfl, by decide, tm4 (List.mem_of_getElem? (i := 148) (by decide +kernel)) (by decide +kernel), mi_X8_takeFrom, ms_X8_takeFrom⟩
theorem vi_RX10_47 : mVi RX10 47 yX5_runAct 5 := ⟨5, TX5, cls_5, rfl, by decide, tm4 (List.mem_of_getElem? (i := 159) (by decide +kernel)) (by decide +kernel), mi_X5_runAct, ms_X5_runAct⟩
theorem si_RX10_60 : mSi RX10 60 yX11_nearestInt := ⟨Or.inr ⟨"DriverBook", by decide +kernel⟩, tm4 (List.mem_of_getElem? (i := 103) (by decide +kernel)) (by decide +kernel)⟩
theorem vi_RX10_82 : mVi RX10 82 yX10_noteSets 10 := ⟨10, TX10, cls_10, rfl, by decide, tm4 (List.mem_of_getElem? (i := 161) (by decide +kernel)) (by decide +kernel), mi_X10_noteSets, ms_X10_noteSets⟩
theorem vi_RX10_86 : mVi RX10 86 yX10_restoreStart 10 := ⟨10, TX10, cls_10, rfl, by decide, tm4 (List.mem_of_getElem? (i := 169) (by decide +kernel)) (by decide +kernel), mi_X10_restoreStart, ms_X10_restoreStart⟩
theorem vi_RX10_89 : mVi RX10 89 yX8_tellEvent 8 := ⟨8, TX8, cls_8, rfl, by decide, tm4 (List.mem_of_getElem? (i := 173) (by decide +kernel)) (by decide +kernel), mi_X8_tellEvent, ms_X8_tellEvent⟩
theorem vi_RX10_93 : mVi RX10 93 yX10_brokenRule 10 := ⟨10, TX10, cls_10, rfl, by decide, tm4 (List.mem_of_getElem? (i := 174) (by decide +kernel)) (by decide +kernel), mi_X10_brokenRule, ms_X10_brokenRule⟩
theorem vi_RX10_97 : mVi RX10 97 yX10_wrongField 10 := ⟨10, TX10, cls_10, rfl, by decide, tm4 (List.mem_of_getElem? (i := 178) (by decide +kernel)) (by decide +kernel), mi_X10_wrongField, ms_X10_wrongField⟩
theorem vi_RX10_104 : mVi RX10 104 yX0_lastSet 0 := ⟨0, TX0, cls_0, rfl, by decide, tm4 (List.mem_of_getElem? (i := 165) (by decide +kernel)) (by decide +kernel), mi_X0_lastSet, ms_X0_lastSet⟩
theorem vi_RX10_113 : mVi RX10 113 yX6_isKept 6 := ⟨6, TX6, cls_6, rfl, by decide, tm4 (List.mem_of_getElem? (i := 182) (by decide +kernel)) (by decide +kernel), mi_X6_isKept, ms_X6_isKept⟩
theorem vi_RX10_117 : mVi RX10 117 yX10_isRight 10 := ⟨10, TX10, cls_10, rfl, by decide, tm4 (List.mem_of_getElem? (i := 183) (by decide +kernel)) (by decide +kernel), mi_X10_isRight, ms_X10_isRight⟩
theorem si_RX12_184 : mSi RX12 184 yX12_in := ⟨Or.inl (tm6 (List.mem_of_getElem? (i := 101) (by decide +kernel)) (by decide +kernel)), tm6 (List.mem_of_getElem? (i := 102) (by decide +kernel)) (by decide +kernel)⟩
theorem vi_RX12_191 : mVi RX12 191 yX12_most 12 := ⟨12, TX12, cls_12, rfl, by decide, tm6 (List.mem_of_getElem? (i := 124) (by decide +kernel)) (by decide +kernel), mi_X12_most, ms_X12_most⟩
theorem vi_RX12_222 : mVi RX12 222 yX12_powers 12 := ⟨12, TX12, cls_12, rfl, by decide, tm6 (List.mem_of_getElem? (i := 108) (by decide +kernel)) (by decide +kernel), mi_X12_powers, ms_X12_powers⟩
theorem vi_RX12_228 : mVi RX12 228 yX12_changed 12 := ⟨12, TX12, cls_12, rfl, by decide, tm6 (List.mem_of_getElem? (i := 104) (by decide +kernel)) (by decide +kernel), mi_X12_changed, ms_X12_changed⟩
theorem vi_RX12_231 : mVi RX12 231 yX12_isRegister 12 := ⟨12, TX12, cls_12, rfl, by decide, tm6 (List.mem_of_getElem? (i := 116) (by decide +kernel)) (by decide +kernel), mi_X12_isRegister, ms_X12_isRegister⟩
theorem vi_RX12_235 : mVi RX12 235 yX12_mask 12 := ⟨12, TX12, cls_12, rfl, by decide, tm6 (List.mem_of_getElem? (i := 120) (by decide +kernel)) (by decide +kernel), mi_X12_mask, ms_X12_mask⟩
theorem vi_RX12_238 : mVi RX12 238 yX12_isField 12 := ⟨12, TX12, cls_12, rfl, by decide, tm6 (List.mem_of_getElem? (i := 132) (by decide +kernel)) (by decide +kernel), mi_X12_isField, ms_X12_isField⟩
theorem vi_RX12_241 : mVi RX12 241 yX12_isAct 12 := ⟨12, TX12, cls_12, rfl, by decide, tm6 (List.mem_of_getElem? (i := 152) (by decide +kernel)) (by decide +kernel), mi_X12_isAct, ms_X12_isAct⟩
theorem vi_RX12_244 : mVi RX12 244 yX12_ticks 12 := ⟨12, TX12, cls_12, rfl, by decide, tm7 (List.mem_of_getElem? (i := 0) (by decide +kernel)) (by decide +kernel), mi_X12_ticks, ms_X12_ticks⟩
theorem vi_RX12_247 : mVi RX12 247 yX12_bitsOf 12 := ⟨12, TX12, cls_12, rfl, by decide, tm7 (List.mem_of_getElem? (i := 20) (by decide +kernel)) (by decide +kernel), mi_X12_bitsOf, ms_X12_bitsOf⟩
theorem vi_RX12_251 : mVi RX12 251 yX12_hits 12 := ⟨12, TX12, cls_12, rfl, by decide, tm7 (List.mem_of_getElem? (i := 16) (by decide +kernel)) (by decide +kernel), mi_X12_hits, ms_X12_hits⟩
theorem vi_RX12_254 : mVi RX12 254 yX12_isBroken 12 := ⟨12, TX12, cls_12, rfl, by decide, tm7 (List.mem_of_getElem? (i := 24) (by decide +kernel)) (by decide +kernel), mi_X12_isBroken, ms_X12_isBroken⟩
theorem vi_RX12_257 : mVi RX12 257 yX12_judges 12 := ⟨12, TX12, cls_12, rfl, by decide, tm7 (List.mem_of_getElem? (i := 12) (by decide +kernel)) (by decide +kernel), mi_X12_judges, ms_X12_judges⟩
theorem vi_RX12_261 : mVi RX12 261 yX12_takes 12 := ⟨12, TX12, cls_12, rfl, by decide, tm7 (List.mem_of_getElem? (i := 28) (by decide +kernel)) (by decide +kernel), mi_X12_takes, ms_X12_takes⟩
theorem vi_RX12_264 : mVi RX12 264 yX12_isBound 12 := ⟨12, TX12, cls_12, rfl, by decide, tm6 (List.mem_of_getElem? (i := 180) (by decide +kernel)) (by decide +kernel), mi_X12_isBound, ms_X12_isBound⟩
theorem vi_RX12_268 : mVi RX12 268 yX12_isShadowed 12 := ⟨12, TX12, cls_12, rfl, by decide, tm6 (List.mem_of_getElem? (i := 188) (by decide +kernel)) (by decide +kernel), mi_X12_isShadowed, ms_X12_isShadowed⟩
theorem vi_RX12_271 : mVi RX12 271 yX12_emit 12 := ⟨12, TX12, cls_12, rfl, by decide, tm6 (List.mem_of_getElem? (i := 192) (by decide +kernel)) (by decide +kernel), mi_X12_emit, ms_X12_emit⟩
theorem vi_RX12_275 : mVi RX12 275 yX12_hasHandler 12 := ⟨12, TX12, cls_12, rfl, by decide, tm6 (List.mem_of_getElem? (i := 196) (by decide +kernel)) (by decide +kernel), mi_X12_hasHandler, ms_X12_hasHandler⟩
theorem vi_RX12_279 : mVi RX12 279 yX12_joins 12 := ⟨12, TX12, cls_12, rfl, by decide, tm6 (List.mem_of_getElem? (i := 176) (by decide +kernel)) (by decide +kernel), mi_X12_joins, ms_X12_joins⟩
theorem vi_RX12_282 : mVi RX12 282 yX12_groups 12 := ⟨12, TX12, cls_12, rfl, by decide, tm6 (List.mem_of_getElem? (i := 184) (by decide +kernel)) (by decide +kernel), mi_X12_groups, ms_X12_groups⟩
theorem vi_RX12_286 : mVi RX12 286 yX12_makes 12 := ⟨12, TX12, cls_12, rfl, by decide, tm6 (List.mem_of_getElem? (i := 172) (by decide +kernel)) (by decide +kernel), mi_X12_makes, ms_X12_makes⟩
theorem vi_RX12_289 : mVi RX12 289 yX12_comes 12 := ⟨12, TX12, cls_12, rfl, by decide, tm6 (List.mem_of_getElem? (i := 216) (by decide +kernel)) (by decide +kernel), mi_X12_comes, ms_X12_comes⟩
theorem vi_RX12_296 : mVi RX12 296 yX12_flagUp 12 := ⟨12, TX12, cls_12, rfl, by decide, tm6 (List.mem_of_getElem? (i := 232) (by decide +kernel)) (by decide +kernel), mi_X12_flagUp, ms_X12_flagUp⟩
theorem vi_RX12_300 : mVi RX12 300 yX12_runs 12 := ⟨12, TX12, cls_12, rfl, by decide, tm6 (List.mem_of_getElem? (i := 224) (by decide +kernel)) (by decide +kernel), mi_X12_runs, ms_X12_runs⟩
theorem vi_RX12_303 : mVi RX12 303 yX12_handles 12 := ⟨12, TX12, cls_12, rfl, by decide, tm6 (List.mem_of_getElem? (i := 228) (by decide +kernel)) (by decide +kernel), mi_X12_handles, ms_X12_handles⟩
theorem vi_RX12_307 : mVi RX12 307 yX12_reads 12 := ⟨12, TX12, cls_12, rfl, by decide, tm6 (List.mem_of_getElem? (i := 236) (by decide +kernel)) (by decide +kernel), mi_X12_reads, ms_X12_reads⟩
theorem vi_RX12_311 : mVi RX12 311 yX12_writes 12 := ⟨12, TX12, cls_12, rfl, by decide, tm7 (List.mem_of_getElem? (i := 8) (by decide +kernel)) (by decide +kernel), mi_X12_writes, ms_X12_writes⟩
theorem vi_RX12_314 : mVi RX12 314 yX12_puts 12 := ⟨12, TX12, cls_12, rfl, by decide, tm7 (List.mem_of_getElem? (i := 4) (by decide +kernel)) (by decide +kernel), mi_X12_puts, ms_X12_puts⟩
theorem vi_RX12_317 : mVi RX12 317 yX12_polls 12 := ⟨12, TX12, cls_12, rfl, by decide, tm7 (List.mem_of_getElem? (i := 32) (by decide +kernel)) (by decide +kernel), mi_X12_polls, ms_X12_polls⟩
theorem vi_RX12_320 : mVi RX12 320 yX12_pauses 12 := ⟨12, TX12, cls_12, rfl, by decide, tm7 (List.mem_of_getElem? (i := 36) (by decide +kernel)) (by decide +kernel), mi_X12_pauses, ms_X12_pauses⟩
theorem vi_RX12_323 : mVi RX12 323 yX12_picks 12 := ⟨12, TX12, cls_12, rfl, by decide, tm7 (List.mem_of_getElem? (i := 40) (by decide +kernel)) (by decide +kernel), mi_X12_picks, ms_X12_picks⟩
theorem vi_RX12_327 : mVi RX12 327 yX12_setTo 12 := ⟨12, TX12, cls_12, rfl, by decide, tm7 (List.mem_of_getElem? (i := 93) (by decide +kernel)) (by decide +kernel), mi_X12_setTo, ms_X12_setTo⟩
theorem vi_RX12_330 : mVi RX12 330 yX12_astray 12 := ⟨12, TX12, cls_12, rfl, by decide, tm7 (List.mem_of_getElem? (i := 89) (by decide +kernel)) (by decide +kernel), mi_X12_astray, ms_X12_astray⟩
theorem vi_RX12_333 : mVi RX12 333 yX12_stores 12 := ⟨12, TX12, cls_12, rfl, by decide, tm7 (List.mem_of_getElem? (i := 77) (by decide +kernel)) (by decide +kernel), mi_X12_stores, ms_X12_stores⟩
theorem vi_RX12_336 : mVi RX12 336 yX12_brings 12 := ⟨12, TX12, cls_12, rfl, by decide, tm7 (List.mem_of_getElem? (i := 81) (by decide +kernel)) (by decide +kernel), mi_X12_brings, ms_X12_brings⟩
theorem vi_RX12_339 : mVi RX12 339 yX12_fails 12 := ⟨12, TX12, cls_12, rfl, by decide, tm7 (List.mem_of_getElem? (i := 85) (by decide +kernel)) (by decide +kernel), mi_X12_fails, ms_X12_fails⟩
theorem si_RX12_343 : mSi RX12 343 yX12_isTape := ⟨Or.inl (tm7 (List.mem_of_getElem? (i := 105) (by decide +kernel)) (by decide +kernel)), tm7 (List.mem_of_getElem? (i := 106) (by decide +kernel)) (by decide +kernel)⟩
theorem vi_RX12_346 : mVi RX12 346 yX12_refuse 12 := ⟨12, TX12, cls_12, rfl, by decide, tm7 (List.mem_of_getElem? (i := 108) (by decide +kernel)) (by decide +kernel), mi_X12_refuse, ms_X12_refuse⟩
theorem vi_RX12_349 : mVi RX12 349 yX12_lacks 12 := ⟨12, TX12, cls_12, rfl, by decide, tm7 (List.mem_of_getElem? (i := 120) (by decide +kernel)) (by decide +kernel), mi_X12_lacks, ms_X12_lacks⟩
theorem si_RX12_352 : mSi RX12 352 yX12_narrowed := ⟨Or.inl (tm7 (List.mem_of_getElem? (i := 140) (by decide +kernel)) (by decide +kernel)), tm7 (List.mem_of_getElem? (i := 141) (by decide +kernel)) (by decide +kernel)⟩
theorem kb_m15 : (Int8.ofInt (-15)).toInt32 = (-15) := by decide
theorem kb_m14 : (Int8.ofInt (-14)).toInt32 = (-14) := by decide
theorem kb_m13 : (Int8.ofInt (-13)).toInt32 = (-13) := by decide
theorem kb_m12 : (Int8.ofInt (-12)).toInt32 = (-12) := by decide
theorem kb_m11 : (Int8.ofInt (-11)).toInt32 = (-11) := by decide
theorem kb_m7 : (Int8.ofInt (-7)).toInt32 = (-7) := by decide
theorem kb_m6 : (Int8.ofInt (-6)).toInt32 = (-6) := by decide
theorem kb_m5 : (Int8.ofInt (-5)).toInt32 = (-5) := by decide
theorem kb_m4 : (Int8.ofInt (-4)).toInt32 = (-4) := by decide
theorem kb_m3 : (Int8.ofInt (-3)).toInt32 = (-3) := by decide
theorem kb_m2 : (Int8.ofInt (-2)).toInt32 = (-2) := by decide
theorem kb_6 : (Int8.ofInt 6).toInt32 = 6 := by decide
theorem kb_8 : (Int8.ofInt 8).toInt32 = 8 := by decide
theorem kb_9 : (Int8.ofInt 9).toInt32 = 9 := by decide
theorem kb_12 : (Int8.ofInt 12).toInt32 = 12 := by decide
theorem kb_16 : (Int8.ofInt 16).toInt32 = 16 := by decide
theorem kb_17 : (Int8.ofInt 17).toInt32 = 17 := by decide
theorem kb_20 : (Int8.ofInt 20).toInt32 = 20 := by decide
theorem kb_24 : (Int8.ofInt 24).toInt32 = 24 := by decide
theorem kb_48 : (Int8.ofInt 48).toInt32 = 48 := by decide
theorem kb_50 : (Int8.ofInt 50).toInt32 = 50 := by decide
theorem kb_64 : (Int8.ofInt 64).toInt32 = 64 := by decide
theorem ks_144 : (Int16.ofInt 144).toInt32 = 144 := by decide
theorem ks_255 : (Int16.ofInt 255).toInt32 = 255 := by decide
theorem ks_300 : (Int16.ofInt 300).toInt32 = 300 := by decide
theorem ks_1008 : (Int16.ofInt 1008).toInt32 = 1008 := by decide
theorem ks_9999 : (Int16.ofInt 9999).toInt32 = 9999 := by decide
theorem kc_RX11_328 : Cond.constantLong RX11 328 2147483647 ∈ mTb := tm4 (List.mem_of_getElem? (i := 105) (by decide +kernel)) (by decide +kernel)
theorem kc_RX2_182 : Cond.constantLong RX2 182 (-1) ∈ mTb := tm4 (List.mem_of_getElem? (i := 79) (by decide +kernel)) (by decide +kernel)
theorem kc_RX8_60 : Cond.constantLong RX8 60 (-1) ∈ mTb := tm2 (List.mem_of_getElem? (i := 2) (by decide +kernel)) (by decide +kernel)
theorem kc_RX12_326 : Cond.constant RX12 326 65535 ∈ mTb := tm7 (List.mem_of_getElem? (i := 52) (by decide +kernel)) (by decide +kernel)
