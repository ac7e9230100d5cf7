def ie_11  (z : Nat) : va_E := .inr (11, [.ref (z + 0), .ref (z + 82), .ref (z + 92), .ref (z + 105), .ref (z + 108), .ref (z + 121), .int 0])
def ic_11 (G : mG)  (z : Nat) : List va_E := (((((((([] : List va_E) ++ (ie_1  (z + 1) :: ic_1 G  (z + 1))) ++ (ie_8  (z + 83) :: ic_8 G  (z + 83))) ++ (ie_2 (z + 0) (z + 82) (z + 93) :: ic_2 G (z + 0) (z + 82) (z + 93))) ++ (ie_5 (z + 0) (z + 82) (z + 92) (z + 106) :: ic_5 G (z + 0) (z + 82) (z + 92) (z + 106))) ++ (ie_10 (z + 0) (z + 82) (z + 105) (z + 109) :: ic_10 G (z + 0) (z + 82) (z + 105) (z + 109))) ++ [(.inl (G.2.1 (.object "DriverBook$Tape"), 6, .inr (.inr (.inr (.inr (fun _ => none))))) : va_E)]).set 121 (.inl (G.2.1 (.object "DriverBook$Tape"), 6, .inr (.inr (.inr (.inr (gAr z 122 12 6)))))) ++ gFl (fun q => ie_9 q) (fun q => ic_9 G q) z 122 12 6)
theorem il_11 (G : mG)  (z : Nat) : (ic_11 G  z).length = 194 := by
  unfold ic_11
  simp only [List.length_append, List.length_set, List.length_cons, List.length_nil, List.length_replicate, il_1, il_8, il_2, il_5, il_10, gFl_len (E1 := fun q => ie_9 q) (DS := fun q => ic_9 G q) (w := 12) (fun q => by simp [il_9])]
set_option maxHeartbeats 400000 in
set_option maxRecDepth 100000 in
theorem ci_11 (G : mG) (l : Launch)  (a z : Nat) : gMet G l yX11_init cX11_init 2 { frames := 4, cells := 194, slots := 4637, locals := 73 } [] a z (.inr (11, gDef 11)) (ie_11  z) (ic_11 G  z) := by
  refine gMet.of (by decide +kernel) rfl (Nat.le_of_ble_eq_true rfl) ?_
  intro p e s m args below meth c hx hb hml hown hts hr hlk hin2 hK hgK hg ls hl hS
  have hown : s.vm.findClass RX11 = some m.cls := hown
  have hl : lv_has ls 2 [(0, .ref a)] := hl
  have hg : gW G z (some a) (.inr (11, [.null, .null, .null, .null, .null, .null, .int 0])) [] s.heap := hg
  have hcl : ([] : List va_E).length = 0 := rfl
  refine lv_aload_n hx hb dX11_init_0 rfl (lv_at hl 0 rfl) ?_
  refine W.objInit hx hb hown (hts _ ni_mRX11_1) (hts _ ni_oi) (hts _ ni_oc) rfl (by rw [hml]; exact hl.1) rfl dX11_init_1 (Nat.le_of_ble_eq_true rfl) (Nat.le_of_ble_eq_true rfl) ?_
  refine W.eq (g2 := F0 m 4 ls []) rfl ?_
  refine lv_aload_n hx hb dX11_init_4 rfl (lv_at hl 0 rfl) ?_
  refine g_new (c := 1) 0 hcl hx hb hts hown hK hg hS cls_1 ni_cRX11_7 ni_i1 ni_n1 (Nat.le_of_ble_eq_true rfl) (Nat.le_of_ble_eq_true rfl) dX11_init_5 (fun H hg hS => ?_)
  refine lv_dup hx hb dX11_init_8 rfl ?_
  refine g_initl 0 81 hcl (il_1 G  _) hx hb hml hts hown hK hgK hg hS hl.1 (ci_1 G l  _ _) me_X1_init mi_X1_init nl_RX11_9 rfl rfl rfl ⟨(Nat.le_of_ble_eq_true rfl), (Nat.le_of_ble_eq_true rfl)⟩ (Nat.le_of_ble_eq_true rfl) (Nat.le_of_ble_eq_true rfl) (Nat.le_of_ble_eq_true rfl) dX11_init_9 (fun H locs hg hS hcl => ?_)
  refine g_put [.ref (z + 0), .null, .null, .null, .null, .null, .int 0] (k := 0) hx hb hts hown hin2 hK hg hS cls_11 (by decide) ni_fRX11_10 rfl rfl rfl rfl (Nat.le_of_ble_eq_true rfl) rfl dX11_init_12 (fun H locs hg hS => ?_)
  refine lv_aload_n hx hb dX11_init_15 rfl (lv_at hl 0 rfl) ?_
  refine g_new (c := 8) 82 hcl hx hb hts hown hK hg hS cls_8 ni_cRX11_16 ni_i8 ni_n8 (Nat.le_of_ble_eq_true rfl) (Nat.le_of_ble_eq_true rfl) dX11_init_16 (fun H hg hS => ?_)
  refine lv_dup hx hb dX11_init_19 rfl ?_
  refine g_initl 82 9 hcl (il_8 G  _) hx hb hml hts hown hK hgK hg hS hl.1 (ci_8 G l  _ _) me_X8_init mi_X8_init nl_RX11_18 rfl rfl rfl ⟨(Nat.le_of_ble_eq_true rfl), (Nat.le_of_ble_eq_true rfl)⟩ (Nat.le_of_ble_eq_true rfl) (Nat.le_of_ble_eq_true rfl) (Nat.le_of_ble_eq_true rfl) dX11_init_20 (fun H locs hg hS hcl => ?_)
  refine g_put [.ref (z + 0), .ref (z + 82), .null, .null, .null, .null, .int 0] (k := 1) hx hb hts hown hin2 hK hg hS cls_11 (by decide) ni_fRX11_19 rfl rfl rfl rfl (Nat.le_of_ble_eq_true rfl) rfl dX11_init_23 (fun H locs hg hS => ?_)
  refine lv_aload_n hx hb dX11_init_26 rfl (lv_at hl 0 rfl) ?_
  refine g_new (c := 2) 92 hcl hx hb hts hown hK hg hS cls_2 ni_cRX11_23 ni_i2 ni_n2 (Nat.le_of_ble_eq_true rfl) (Nat.le_of_ble_eq_true rfl) dX11_init_27 (fun H hg hS => ?_)
  refine lv_dup hx hb dX11_init_30 rfl ?_
  refine lv_aload_n hx hb dX11_init_31 rfl (lv_at hl 0 rfl) ?_
  refine g_get (k := 0) (v := .ref (z + 0)) hx hb hts hown hK hg cls_11 (by decide) ni_fRX11_10 rfl dX11_init_32 ?_
  refine lv_aload_n hx hb dX11_init_35 rfl (lv_at hl 0 rfl) ?_
  refine g_get (k := 1) (v := .ref (z + 82)) hx hb hts hown hK hg cls_11 (by decide) ni_fRX11_19 rfl dX11_init_36 ?_
  refine g_initl 92 12 hcl (il_2 G (z + 0) (z + 82) _) hx hb hml hts hown hK hgK hg hS hl.1 (ci_2 G l (z + 0) (z + 82) _ _) me_X2_init mi_X2_init nl_RX11_25 rfl rfl rfl ⟨(Nat.le_of_ble_eq_true rfl), (Nat.le_of_ble_eq_true rfl)⟩ (Nat.le_of_ble_eq_true rfl) (Nat.le_of_ble_eq_true rfl) (Nat.le_of_ble_eq_true rfl) dX11_init_39 (fun H locs hg hS hcl => ?_)
  refine g_put [.ref (z + 0), .ref (z + 82), .ref (z + 92), .null, .null, .null, .int 0] (k := 2) hx hb hts hown hin2 hK hg hS cls_11 (by decide) ni_fRX11_28 rfl rfl rfl rfl (Nat.le_of_ble_eq_true rfl) rfl dX11_init_42 (fun H locs hg hS => ?_)
  refine lv_aload_n hx hb dX11_init_45 rfl (lv_at hl 0 rfl) ?_
  refine g_new (c := 5) 105 hcl hx hb hts hown hK hg hS cls_5 ni_cRX11_32 ni_i5 ni_n5 (Nat.le_of_ble_eq_true rfl) (Nat.le_of_ble_eq_true rfl) dX11_init_46 (fun H hg hS => ?_)
  refine lv_dup hx hb dX11_init_49 rfl ?_
  refine lv_aload_n hx hb dX11_init_50 rfl (lv_at hl 0 rfl) ?_
  refine g_get (k := 0) (v := .ref (z + 0)) hx hb hts hown hK hg cls_11 (by decide) ni_fRX11_10 rfl dX11_init_51 ?_
  refine lv_aload_n hx hb dX11_init_54 rfl (lv_at hl 0 rfl) ?_
  refine g_get (k := 1) (v := .ref (z + 82)) hx hb hts hown hK hg cls_11 (by decide) ni_fRX11_19 rfl dX11_init_55 ?_
  refine lv_aload_n hx hb dX11_init_58 rfl (lv_at hl 0 rfl) ?_
  refine g_get (k := 2) (v := .ref (z + 92)) hx hb hts hown hK hg cls_11 (by decide) ni_fRX11_28 rfl dX11_init_59 ?_
  refine g_initl 105 2 hcl (il_5 G (z + 0) (z + 82) (z + 92) _) hx hb hml hts hown hK hgK hg hS hl.1 (ci_5 G l (z + 0) (z + 82) (z + 92) _ _) me_X5_init mi_X5_init nl_RX11_34 rfl rfl rfl ⟨(Nat.le_of_ble_eq_true rfl), (Nat.le_of_ble_eq_true rfl)⟩ (Nat.le_of_ble_eq_true rfl) (Nat.le_of_ble_eq_true rfl) (Nat.le_of_ble_eq_true rfl) dX11_init_62 (fun H locs hg hS hcl => ?_)
  refine g_put [.ref (z + 0), .ref (z + 82), .ref (z + 92), .ref (z + 105), .null, .null, .int 0] (k := 3) hx hb hts hown hin2 hK hg hS cls_11 (by decide) ni_fRX11_37 rfl rfl rfl rfl (Nat.le_of_ble_eq_true rfl) rfl dX11_init_65 (fun H locs hg hS => ?_)
  refine lv_aload_n hx hb dX11_init_68 rfl (lv_at hl 0 rfl) ?_
  refine g_new (c := 10) 108 hcl hx hb hts hown hK hg hS cls_10 ni_cRX11_41 ni_i10 ni_n10 (Nat.le_of_ble_eq_true rfl) (Nat.le_of_ble_eq_true rfl) dX11_init_69 (fun H hg hS => ?_)
  refine lv_dup hx hb dX11_init_72 rfl ?_
  refine lv_aload_n hx hb dX11_init_73 rfl (lv_at hl 0 rfl) ?_
  refine g_get (k := 0) (v := .ref (z + 0)) hx hb hts hown hK hg cls_11 (by decide) ni_fRX11_10 rfl dX11_init_74 ?_
  refine lv_aload_n hx hb dX11_init_77 rfl (lv_at hl 0 rfl) ?_
  refine g_get (k := 1) (v := .ref (z + 82)) hx hb hts hown hK hg cls_11 (by decide) ni_fRX11_19 rfl dX11_init_78 ?_
  refine lv_aload_n hx hb dX11_init_81 rfl (lv_at hl 0 rfl) ?_
  refine g_get (k := 3) (v := .ref (z + 105)) hx hb hts hown hK hg cls_11 (by decide) ni_fRX11_37 rfl dX11_init_82 ?_
  refine g_initl 108 12 hcl (il_10 G (z + 0) (z + 82) (z + 105) _) hx hb hml hts hown hK hgK hg hS hl.1 (ci_10 G l (z + 0) (z + 82) (z + 105) _ _) me_X10_init mi_X10_init nl_RX11_43 rfl rfl rfl ⟨(Nat.le_of_ble_eq_true rfl), (Nat.le_of_ble_eq_true rfl)⟩ (Nat.le_of_ble_eq_true rfl) (Nat.le_of_ble_eq_true rfl) (Nat.le_of_ble_eq_true rfl) dX11_init_85 (fun H locs hg hS hcl => ?_)
  refine g_put [.ref (z + 0), .ref (z + 82), .ref (z + 92), .ref (z + 105), .ref (z + 108), .null, .int 0] (k := 4) hx hb hts hown hin2 hK hg hS cls_11 (by decide) ni_fRX11_46 rfl rfl rfl rfl (Nat.le_of_ble_eq_true rfl) rfl dX11_init_88 (fun H locs hg hS => ?_)
  refine lv_aload_n hx hb dX11_init_91 rfl (lv_at hl 0 rfl) ?_
  refine lv_bipush hx hb dX11_init_92 (v := 6) (by decide) ?_
  refine g_newq (C := "DriverBook$Tape") (N := 6) (t0 := 7) 121 hcl hx hb hts hown hK hg hS ni_cRX11_50 hgK.2.2.2.1 rfl (by decide) (by decide) (by decide) (Nat.le_of_ble_eq_true rfl) (Nat.le_of_ble_eq_true rfl) dX11_init_94 (fun H hg hS hcl hjq => ?_)
  refine g_put [.ref (z + 0), .ref (z + 82), .ref (z + 92), .ref (z + 105), .ref (z + 108), .ref (z + 121), .int 0] (k := 5) hx hb hts hown hin2 hK hg hS cls_11 (by decide) ni_fRX11_52 rfl rfl rfl rfl (Nat.le_of_ble_eq_true rfl) rfl dX11_init_97 (fun H locs hg hS => ?_)
  refine lv_iconst hx hb dX11_init_100 (v := nI 0) (by decide) ?_
  refine lv_istore_n hx hb dX11_init_101 (i := 1) rfl hl (by decide) rfl (fun ls hl => ?_)
  refine g_loop0 (nc := 122) (ns := 3071) (E1 := fun q => ie_9 q) (DS := fun q => ic_9 G q) (N := 6) (n0 := 122) (w := 12) (j0 := 121) (k0 := 5) (c := 9) (ca := 11) (t0 := 7) 102 hx hb hml (by decide) hts hown hK hgK cls_11 (by decide) ni_fRX11_52 rfl cls_9 ni_cRX11_50 ni_i9 ni_n9 rfl (fun a z => ci_9 G l a z) (fun q => ⟨_, rfl⟩) (fun q => rfl) rfl me_X9_init mi_X9_init nl_RX11_56 rfl (by decide) (by decide) hcl hjq ⟨(Nat.le_of_ble_eq_true rfl), (Nat.le_of_ble_eq_true rfl)⟩ (Nat.le_of_ble_eq_true rfl) (Nat.le_of_ble_eq_true rfl) dX11_init_102 dX11_init_103 dX11_init_105 dX11_init_108 dX11_init_109 dX11_init_112 dX11_init_113 dX11_init_116 dX11_init_117 dX11_init_120 dX11_init_121 dX11_init_124 (fun H locs ls hg hS hl hcl => ?_) hg hS hl
  refine lv_aload_n hx hb dX11_init_127 rfl (lv_at hl 1 rfl) ?_
  refine lv_iconst hx hb dX11_init_128 (v := 0) (by decide) ?_
  refine g_put [.ref (z + 0), .ref (z + 82), .ref (z + 92), .ref (z + 105), .ref (z + 108), .ref (z + 121), .int 0] (k := 6) hx hb hts hown hin2 hK hg hS cls_11 (by decide) ni_fRX11_57 rfl rfl rfl rfl (Nat.le_of_ble_eq_true rfl) rfl dX11_init_129 (fun H locs hg hS => ?_)
  have hg : gW G z (some a) (ie_11  z) (ic_11 G  z) H := hg
  exact W.vret hx hb hr (fun t ht _ => ⟨rfl, by rw [ht]; exact hg, hS.F ht⟩) hS.2.2 dX11_init_132 hlk
