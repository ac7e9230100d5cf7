def ie_1  (z : Nat) : va_E := .inr (1, [.ref (z + 0), .ref (z + 1), .ref (z + 2), .int 4, .int 0, .int 0, .int 0, .int 1, .int 0, .int 0])
def ic_1 (G : mG)  (z : Nat) : List va_E := ((((((([] : List va_E) ++ [(.inl (G.2.1 (.object "DriverBook$Field"), 24, .inr (.inr (.inr (.inr (fun _ => none))))) : va_E)]) ++ [(.inl (G.2.1 (.object "DriverBook$Law"), 12, .inr (.inr (.inr (.inr (fun _ => none))))) : va_E)]) ++ [(.inl (G.2.1 (.object "DriverBook$Act"), 6, .inr (.inr (.inr (.inr (fun _ => none))))) : va_E)]).set 0 (.inl (G.2.1 (.object "DriverBook$Field"), 24, .inr (.inr (.inr (.inr (gAr z 3 1 24)))))) ++ gFl (fun q => ie_6 q) (fun q => []) z 3 1 24).set 1 (.inl (G.2.1 (.object "DriverBook$Law"), 12, .inr (.inr (.inr (.inr (gAr z 27 1 12)))))) ++ gFl (fun q => ie_7 q) (fun q => []) z 27 1 12).set 2 (.inl (G.2.1 (.object "DriverBook$Act"), 6, .inr (.inr (.inr (.inr (gAr z 39 7 6)))))) ++ gFl (fun q => ie_0 q) (fun q => ic_0 G q) z 39 7 6)
theorem il_1 (G : mG)  (z : Nat) : (ic_1 G  z).length = 81 := by
  unfold ic_1
  simp only [List.length_append, List.length_set, List.length_cons, List.length_nil, List.length_replicate, gFl_len (E1 := fun q => ie_6 q) (DS := fun q => []) (w := 1) (fun q => by simp []), gFl_len (E1 := fun q => ie_7 q) (DS := fun q => []) (w := 1) (fun q => by simp []), gFl_len (E1 := fun q => ie_0 q) (DS := fun q => ic_0 G q) (w := 7) (fun q => by simp [il_0])]
set_option maxHeartbeats 400000 in
set_option maxRecDepth 100000 in
theorem ci_1 (G : mG) (l : Launch)  (a z : Nat) : gMet G l yX1_init cX1_init 2 { frames := 3, cells := 81, slots := 2418, locals := 52 } [] a z (.inr (1, gDef 1)) (ie_1  z) (ic_1 G  z) := by
  refine gMet.of (by decide +kernel) rfl (Nat.le_of_ble_eq_true rfl) ?_
  intro p e s m args below meth c hx hb hml hown hts hr hlk hin2 hK hgK hg ls hl hS
  have hown : s.vm.findClass RX1 = some m.cls := hown
  have hl : lv_has ls 2 [(0, .ref a)] := hl
  have hg : gW G z (some a) (.inr (1, [.null, .null, .null, .int 0, .int 0, .int 0, .int 0, .int 0, .int 0, .int 0])) [] s.heap := hg
  have hcl : ([] : List va_E).length = 0 := rfl
  refine lv_aload_n hx hb dX1_init_0 rfl (lv_at hl 0 rfl) ?_
  refine W.objInit hx hb hown (hts _ ni_mRX1_3) (hts _ ni_oi) (hts _ ni_oc) rfl (by rw [hml]; exact hl.1) rfl dX1_init_1 (Nat.le_of_ble_eq_true rfl) (Nat.le_of_ble_eq_true rfl) ?_
  refine W.eq (g2 := F0 m 4 ls []) rfl ?_
  refine lv_aload_n hx hb dX1_init_4 rfl (lv_at hl 0 rfl) ?_
  refine lv_bipush hx hb dX1_init_5 (v := 24) (by decide) ?_
  refine g_newq (C := "DriverBook$Field") (N := 24) (t0 := 5) 0 hcl hx hb hts hown hK hg hS ni_cRX1_9 hgK.2.1 rfl (by decide) (by decide) (by decide) (Nat.le_of_ble_eq_true rfl) (Nat.le_of_ble_eq_true rfl) dX1_init_7 (fun H hg hS hcl hjq => ?_)
  refine g_put [.ref (z + 0), .null, .null, .int 0, .int 0, .int 0, .int 0, .int 0, .int 0, .int 0] (k := 0) hx hb hts hown hin2 hK hg hS cls_1 (by decide) ni_fRX1_11 rfl rfl rfl rfl (Nat.le_of_ble_eq_true rfl) rfl dX1_init_10 (fun H locs hg hS => ?_)
  refine lv_aload_n hx hb dX1_init_13 rfl (lv_at hl 0 rfl) ?_
  refine lv_bipush hx hb dX1_init_14 (v := 12) (by decide) ?_
  refine g_newq (C := "DriverBook$Law") (N := 12) (t0 := 6) 1 hcl hx hb hts hown hK hg hS ni_cRX1_17 hgK.2.2.1 rfl (by decide) (by decide) (by decide) (Nat.le_of_ble_eq_true rfl) (Nat.le_of_ble_eq_true rfl) dX1_init_16 (fun H hg hS hcl hjq => ?_)
  refine g_put [.ref (z + 0), .ref (z + 1), .null, .int 0, .int 0, .int 0, .int 0, .int 0, .int 0, .int 0] (k := 1) hx hb hts hown hin2 hK hg hS cls_1 (by decide) ni_fRX1_19 rfl rfl rfl rfl (Nat.le_of_ble_eq_true rfl) rfl dX1_init_19 (fun H locs hg hS => ?_)
  refine lv_aload_n hx hb dX1_init_22 rfl (lv_at hl 0 rfl) ?_
  refine lv_bipush hx hb dX1_init_23 (v := 6) (by decide) ?_
  refine g_newq (C := "DriverBook$Act") (N := 6) (t0 := 4) 2 hcl hx hb hts hown hK hg hS ni_cRX1_23 hgK.1 rfl (by decide) (by decide) (by decide) (Nat.le_of_ble_eq_true rfl) (Nat.le_of_ble_eq_true rfl) dX1_init_25 (fun H hg hS hcl hjq => ?_)
  refine g_put [.ref (z + 0), .ref (z + 1), .ref (z + 2), .int 0, .int 0, .int 0, .int 0, .int 0, .int 0, .int 0] (k := 2) hx hb hts hown hin2 hK hg hS cls_1 (by decide) ni_fRX1_25 rfl rfl rfl rfl (Nat.le_of_ble_eq_true rfl) rfl dX1_init_28 (fun H locs hg hS => ?_)
  refine lv_aload_n hx hb dX1_init_31 rfl (lv_at hl 0 rfl) ?_
  refine lv_iconst hx hb dX1_init_32 (v := 4) (by decide) ?_
  refine g_put [.ref (z + 0), .ref (z + 1), .ref (z + 2), .int 4, .int 0, .int 0, .int 0, .int 0, .int 0, .int 0] (k := 3) hx hb hts hown hin2 hK hg hS cls_1 (by decide) ni_fRX1_29 rfl rfl rfl rfl (Nat.le_of_ble_eq_true rfl) rfl dX1_init_33 (fun H locs hg hS => ?_)
  refine lv_aload_n hx hb dX1_init_36 rfl (lv_at hl 0 rfl) ?_
  refine lv_iconst hx hb dX1_init_37 (v := 0) (by decide) ?_
  refine g_put [.ref (z + 0), .ref (z + 1), .ref (z + 2), .int 4, .int 0, .int 0, .int 0, .int 0, .int 0, .int 0] (k := 4) hx hb hts hown hin2 hK hg hS cls_1 (by decide) ni_fRX1_33 rfl rfl rfl rfl (Nat.le_of_ble_eq_true rfl) rfl dX1_init_38 (fun H locs hg hS => ?_)
  refine lv_aload_n hx hb dX1_init_41 rfl (lv_at hl 0 rfl) ?_
  refine lv_iconst hx hb dX1_init_42 (v := 0) (by decide) ?_
  refine g_put [.ref (z + 0), .ref (z + 1), .ref (z + 2), .int 4, .int 0, .int 0, .int 0, .int 0, .int 0, .int 0] (k := 5) hx hb hts hown hin2 hK hg hS cls_1 (by decide) ni_fRX1_36 rfl rfl rfl rfl (Nat.le_of_ble_eq_true rfl) rfl dX1_init_43 (fun H locs hg hS => ?_)
  refine lv_aload_n hx hb dX1_init_46 rfl (lv_at hl 0 rfl) ?_
  refine lv_iconst hx hb dX1_init_47 (v := 0) (by decide) ?_
  refine g_put [.ref (z + 0), .ref (z + 1), .ref (z + 2), .int 4, .int 0, .int 0, .int 0, .int 0, .int 0, .int 0] (k := 6) hx hb hts hown hin2 hK hg hS cls_1 (by decide) ni_fRX1_39 rfl rfl rfl rfl (Nat.le_of_ble_eq_true rfl) rfl dX1_init_48 (fun H locs hg hS => ?_)
  refine lv_aload_n hx hb dX1_init_51 rfl (lv_at hl 0 rfl) ?_
  refine lv_iconst hx hb dX1_init_52 (v := 1) (by decide) ?_
  refine g_put [.ref (z + 0), .ref (z + 1), .ref (z + 2), .int 4, .int 0, .int 0, .int 0, .int 1, .int 0, .int 0] (k := 7) hx hb hts hown hin2 hK hg hS cls_1 (by decide) ni_fRX1_42 rfl rfl rfl rfl (Nat.le_of_ble_eq_true rfl) rfl dX1_init_53 (fun H locs hg hS => ?_)
  refine lv_aload_n hx hb dX1_init_56 rfl (lv_at hl 0 rfl) ?_
  refine lv_iconst hx hb dX1_init_57 (v := 0) (by decide) ?_
  refine g_put [.ref (z + 0), .ref (z + 1), .ref (z + 2), .int 4, .int 0, .int 0, .int 0, .int 1, .int 0, .int 0] (k := 8) hx hb hts hown hin2 hK hg hS cls_1 (by decide) ni_fRX1_45 rfl rfl rfl rfl (Nat.le_of_ble_eq_true rfl) rfl dX1_init_58 (fun H locs hg hS => ?_)
  refine lv_aload_n hx hb dX1_init_61 rfl (lv_at hl 0 rfl) ?_
  refine lv_iconst hx hb dX1_init_62 (v := 0) (by decide) ?_
  refine g_put [.ref (z + 0), .ref (z + 1), .ref (z + 2), .int 4, .int 0, .int 0, .int 0, .int 1, .int 0, .int 0] (k := 9) hx hb hts hown hin2 hK hg hS cls_1 (by decide) ni_fRX1_48 rfl rfl (by decide) rfl (Nat.le_of_ble_eq_true rfl) rfl dX1_init_63 (fun H locs hg hS => ?_)
  refine lv_iconst hx hb dX1_init_66 (v := nI 0) (by decide) ?_
  refine lv_istore_n hx hb dX1_init_67 (i := 1) rfl hl (by decide) rfl (fun ls hl => ?_)
  refine g_loop0 (nc := 3) (ns := 42) (E1 := fun q => ie_6 q) (DS := fun q => []) (N := 24) (n0 := 3) (w := 1) (j0 := 0) (k0 := 0) (c := 6) (ca := 1) (t0 := 5) 68 hx hb hml (by decide) hts hown hK hgK cls_1 (by decide) ni_fRX1_11 rfl cls_6 ni_cRX1_9 ni_i6 ni_n6 rfl (fun a z => ci_6 G l a z) (fun q => ⟨_, rfl⟩) (fun q => rfl) rfl me_X6_init mi_X6_init nl_RX1_52 rfl (by decide) (by decide) hcl rfl ⟨(Nat.le_of_ble_eq_true rfl), (Nat.le_of_ble_eq_true rfl)⟩ (Nat.le_of_ble_eq_true rfl) (Nat.le_of_ble_eq_true rfl) dX1_init_68 dX1_init_69 dX1_init_71 dX1_init_74 dX1_init_75 dX1_init_78 dX1_init_79 dX1_init_82 dX1_init_83 dX1_init_86 dX1_init_87 dX1_init_90 (fun H locs ls hg hS hl hcl => ?_) hg hS hl
  refine lv_iconst hx hb dX1_init_93 (v := nI 0) (by decide) ?_
  refine lv_istore_n hx hb dX1_init_94 (i := 1) rfl hl (by decide) rfl (fun ls hl => ?_)
  refine g_loop0 (nc := 27) (ns := 282) (E1 := fun q => ie_7 q) (DS := fun q => []) (N := 12) (n0 := 27) (w := 1) (j0 := 1) (k0 := 1) (c := 7) (ca := 1) (t0 := 6) 95 hx hb hml (by decide) hts hown hK hgK cls_1 (by decide) ni_fRX1_19 rfl cls_7 ni_cRX1_17 ni_i7 ni_n7 rfl (fun a z => ci_7 G l a z) (fun q => ⟨_, rfl⟩) (fun q => rfl) rfl me_X7_init mi_X7_init nl_RX1_53 rfl (by decide) (by decide) hcl rfl ⟨(Nat.le_of_ble_eq_true rfl), (Nat.le_of_ble_eq_true rfl)⟩ (Nat.le_of_ble_eq_true rfl) (Nat.le_of_ble_eq_true rfl) dX1_init_95 dX1_init_96 dX1_init_98 dX1_init_101 dX1_init_102 dX1_init_105 dX1_init_106 dX1_init_109 dX1_init_110 dX1_init_113 dX1_init_114 dX1_init_117 (fun H locs ls hg hS hl hcl => ?_) hg hS hl
  refine lv_iconst hx hb dX1_init_120 (v := nI 0) (by decide) ?_
  refine lv_istore_n hx hb dX1_init_121 (i := 1) rfl hl (by decide) rfl (fun ls hl => ?_)
  refine g_loop0 (nc := 39) (ns := 330) (E1 := fun q => ie_0 q) (DS := fun q => ic_0 G q) (N := 6) (n0 := 39) (w := 7) (j0 := 2) (k0 := 2) (c := 0) (ca := 1) (t0 := 4) 122 hx hb hml (by decide) hts hown hK hgK cls_1 (by decide) ni_fRX1_25 rfl cls_0 ni_cRX1_23 ni_i0 ni_n0 rfl (fun a z => ci_0 G l a z) (fun q => ⟨_, rfl⟩) (fun q => rfl) rfl me_X0_init mi_X0_init nl_RX1_54 rfl (by decide) (by decide) hcl rfl ⟨(Nat.le_of_ble_eq_true rfl), (Nat.le_of_ble_eq_true rfl)⟩ (Nat.le_of_ble_eq_true rfl) (Nat.le_of_ble_eq_true rfl) dX1_init_122 dX1_init_123 dX1_init_125 dX1_init_128 dX1_init_129 dX1_init_132 dX1_init_133 dX1_init_136 dX1_init_137 dX1_init_140 dX1_init_141 dX1_init_144 (fun H locs ls hg hS hl hcl => ?_) hg hS hl
  have hg : gW G z (some a) (ie_1  z) (ic_1 G  z) H := hg
  exact W.vret hx hb hr (fun t ht _ => ⟨rfl, by rw [ht]; exact hg, hS.F ht⟩) hS.2.2 dX1_init_147 hlk
