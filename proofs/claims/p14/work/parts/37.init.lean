/-! ===== constructors: what they make, and their contracts ===== -/
def ie_4  (_ : Nat) : va_E := .inr (4, [.int 0, .int 0, .int 0, .int 0])
set_option maxHeartbeats 400000 in
set_option maxRecDepth 100000 in
theorem ci_4 (G : mG) (l : Launch)  (a z : Nat) : gMet G l yX4_init cX4_init 1 { frames := 1, cells := 0, slots := 0, locals := 12 } [] a z (.inr (4, gDef 4)) (ie_4  z) [] := by
  refine gMet.of (by decide +kernel) rfl (Nat.le_of_ble_eq_true rfl) ?_
  intro p e s m args below meth c hx hb hml hown hts hr hlk hin2 hK hgK hg ls hl hS
  have hown : s.vm.findClass RX4 = some m.cls := hown
  have hl : lv_has ls 1 [(0, .ref a)] := hl
  have hg : gW G z (some a) (.inr (4, [.int 0, .int 0, .int 0, .int 0])) [] s.heap := hg
  have hcl : ([] : List va_E).length = 0 := rfl
  refine lv_aload_n hx hb dX4_init_0 rfl (lv_at hl 0 rfl) ?_
  refine W.objInit hx hb hown (hts _ ni_mRX4_1) (hts _ ni_oi) (hts _ ni_oc) rfl (by rw [hml]; exact hl.1) rfl dX4_init_1 (Nat.le_of_ble_eq_true rfl) (Nat.le_of_ble_eq_true rfl) ?_
  refine W.eq (g2 := F0 m 4 ls []) rfl ?_
  have hg : gW G z (some a) (ie_4  z) [] s.heap := hg
  exact W.vret hx hb hr (fun t ht _ => ⟨rfl, by rw [ht]; exact hg, hS.F ht⟩) hS.2.2 dX4_init_4 hlk
def ie_6  (_ : Nat) : va_E := .inr (6, [.int 0, .int 0, .int 0, .int 0, .int 0, .int 0, .int 0, .int 0, .int 0, .int 0])
set_option maxHeartbeats 400000 in
set_option maxRecDepth 100000 in
theorem ci_6 (G : mG) (l : Launch)  (a z : Nat) : gMet G l yX6_init cX6_init 1 { frames := 1, cells := 0, slots := 0, locals := 12 } [] a z (.inr (6, gDef 6)) (ie_6  z) [] := by
  refine gMet.of (by decide +kernel) rfl (Nat.le_of_ble_eq_true rfl) ?_
  intro p e s m args below meth c hx hb hml hown hts hr hlk hin2 hK hgK hg ls hl hS
  have hown : s.vm.findClass RX6 = some m.cls := hown
  have hl : lv_has ls 1 [(0, .ref a)] := hl
  have hg : gW G z (some a) (.inr (6, [.int 0, .int 0, .int 0, .int 0, .int 0, .int 0, .int 0, .int 0, .int 0, .int 0])) [] s.heap := hg
  have hcl : ([] : List va_E).length = 0 := rfl
  refine lv_aload_n hx hb dX6_init_0 rfl (lv_at hl 0 rfl) ?_
  refine W.objInit hx hb hown (hts _ ni_mRX6_1) (hts _ ni_oi) (hts _ ni_oc) rfl (by rw [hml]; exact hl.1) rfl dX6_init_1 (Nat.le_of_ble_eq_true rfl) (Nat.le_of_ble_eq_true rfl) ?_
  refine W.eq (g2 := F0 m 4 ls []) rfl ?_
  have hg : gW G z (some a) (ie_6  z) [] s.heap := hg
  exact W.vret hx hb hr (fun t ht _ => ⟨rfl, by rw [ht]; exact hg, hS.F ht⟩) hS.2.2 dX6_init_4 hlk
def ie_7  (_ : Nat) : va_E := .inr (7, [.int 0, .int 0, .int 0, .int 0])
set_option maxHeartbeats 400000 in
set_option maxRecDepth 100000 in
theorem ci_7 (G : mG) (l : Launch)  (a z : Nat) : gMet G l yX7_init cX7_init 1 { frames := 1, cells := 0, slots := 0, locals := 12 } [] a z (.inr (7, gDef 7)) (ie_7  z) [] := by
  refine gMet.of (by decide +kernel) rfl (Nat.le_of_ble_eq_true rfl) ?_
  intro p e s m args below meth c hx hb hml hown hts hr hlk hin2 hK hgK hg ls hl hS
  have hown : s.vm.findClass RX7 = some m.cls := hown
  have hl : lv_has ls 1 [(0, .ref a)] := hl
  have hg : gW G z (some a) (.inr (7, [.int 0, .int 0, .int 0, .int 0])) [] s.heap := hg
  have hcl : ([] : List va_E).length = 0 := rfl
  refine lv_aload_n hx hb dX7_init_0 rfl (lv_at hl 0 rfl) ?_
  refine W.objInit hx hb hown (hts _ ni_mRX7_1) (hts _ ni_oi) (hts _ ni_oc) rfl (by rw [hml]; exact hl.1) rfl dX7_init_1 (Nat.le_of_ble_eq_true rfl) (Nat.le_of_ble_eq_true rfl) ?_
  refine W.eq (g2 := F0 m 4 ls []) rfl ?_
  have hg : gW G z (some a) (ie_7  z) [] s.heap := hg
  exact W.vret hx hb hr (fun t ht _ => ⟨rfl, by rw [ht]; exact hg, hS.F ht⟩) hS.2.2 dX7_init_4 hlk
def ie_3  (z : Nat) : va_E := .inr (3, [.ref (z + 0), .int 0, .int 0, .int 0, .int 0, .int 0])
def ic_3 (G : mG)  (z : Nat) : List va_E := (([] : List va_E) ++ [(.inl (G.2.1 .int, 288, .inl fun _ => 0) : va_E)])
theorem il_3 (G : mG)  (z : Nat) : (ic_3 G  z).length = 1 := by
  unfold ic_3
  simp only [List.length_append, List.length_set, List.length_cons, List.length_nil, List.length_replicate]
set_option maxHeartbeats 400000 in
set_option maxRecDepth 100000 in
theorem ci_3 (G : mG) (l : Launch)  (a z : Nat) : gMet G l yX3_init cX3_init 1 { frames := 1, cells := 1, slots := 288, locals := 12 } [] a z (.inr (3, gDef 3)) (ie_3  z) (ic_3 G  z) := by
  refine gMet.of (by decide +kernel) rfl (Nat.le_of_ble_eq_true rfl) ?_
  intro p e s m args below meth c hx hb hml hown hts hr hlk hin2 hK hgK hg ls hl hS
  have hown : s.vm.findClass RX3 = some m.cls := hown
  have hl : lv_has ls 1 [(0, .ref a)] := hl
  have hg : gW G z (some a) (.inr (3, [.null, .int 0, .int 0, .int 0, .int 0, .int 0])) [] s.heap := hg
  have hcl : ([] : List va_E).length = 0 := rfl
  refine lv_aload_n hx hb dX3_init_0 rfl (lv_at hl 0 rfl) ?_
  refine W.objInit hx hb hown (hts _ ni_mRX3_3) (hts _ ni_oi) (hts _ ni_oc) rfl (by rw [hml]; exact hl.1) rfl dX3_init_1 (Nat.le_of_ble_eq_true rfl) (Nat.le_of_ble_eq_true rfl) ?_
  refine W.eq (g2 := F0 m 4 ls []) rfl ?_
  refine lv_aload_n hx hb dX3_init_4 rfl (lv_at hl 0 rfl) ?_
  refine lv_sipush hx hb dX3_init_5 (v := 288) (by decide) ?_
  refine g_newa (at_ := .int) (ty := .int) (N := 288) (t0 := 0) (a0 := (288, .inl fun _ => 0)) 0 hcl hx hb hts hK hg hS rfl ni_a_int rfl (fun _ _ q => q) (fun _ => rfl) (by decide) (by decide) (by decide) (Nat.le_of_ble_eq_true rfl) (Nat.le_of_ble_eq_true rfl) dX3_init_8 (fun H hg hS hcl => ?_)
  refine g_put [.ref (z + 0), .int 0, .int 0, .int 0, .int 0, .int 0] (k := 0) hx hb hts hown hin2 hK hg hS cls_3 (by decide) ni_fRX3_11 rfl rfl rfl rfl (Nat.le_of_ble_eq_true rfl) rfl dX3_init_10 (fun H locs hg hS => ?_)
  refine lv_aload_n hx hb dX3_init_13 rfl (lv_at hl 0 rfl) ?_
  refine lv_iconst hx hb dX3_init_14 (v := 0) (by decide) ?_
  refine g_put [.ref (z + 0), .int 0, .int 0, .int 0, .int 0, .int 0] (k := 1) hx hb hts hown hin2 hK hg hS cls_3 (by decide) ni_fRX3_15 rfl rfl rfl rfl (Nat.le_of_ble_eq_true rfl) rfl dX3_init_15 (fun H locs hg hS => ?_)
  refine lv_aload_n hx hb dX3_init_18 rfl (lv_at hl 0 rfl) ?_
  refine lv_iconst hx hb dX3_init_19 (v := 0) (by decide) ?_
  refine g_put [.ref (z + 0), .int 0, .int 0, .int 0, .int 0, .int 0] (k := 2) hx hb hts hown hin2 hK hg hS cls_3 (by decide) ni_fRX3_19 rfl rfl rfl rfl (Nat.le_of_ble_eq_true rfl) rfl dX3_init_20 (fun H locs hg hS => ?_)
  refine lv_aload_n hx hb dX3_init_23 rfl (lv_at hl 0 rfl) ?_
  refine lv_iconst hx hb dX3_init_24 (v := 0) (by decide) ?_
  refine g_put [.ref (z + 0), .int 0, .int 0, .int 0, .int 0, .int 0] (k := 3) hx hb hts hown hin2 hK hg hS cls_3 (by decide) ni_fRX3_22 rfl rfl rfl rfl (Nat.le_of_ble_eq_true rfl) rfl dX3_init_25 (fun H locs hg hS => ?_)
  refine lv_aload_n hx hb dX3_init_28 rfl (lv_at hl 0 rfl) ?_
  refine lv_iconst hx hb dX3_init_29 (v := 0) (by decide) ?_
  refine g_put [.ref (z + 0), .int 0, .int 0, .int 0, .int 0, .int 0] (k := 4) hx hb hts hown hin2 hK hg hS cls_3 (by decide) ni_fRX3_25 rfl rfl rfl rfl (Nat.le_of_ble_eq_true rfl) rfl dX3_init_30 (fun H locs hg hS => ?_)
  refine lv_aload_n hx hb dX3_init_33 rfl (lv_at hl 0 rfl) ?_
  refine lv_iconst hx hb dX3_init_34 (v := 0) (by decide) ?_
  refine g_put [.ref (z + 0), .int 0, .int 0, .int 0, .int 0, .int 0] (k := 5) hx hb hts hown hin2 hK hg hS cls_3 (by decide) ni_fRX3_28 rfl rfl rfl rfl (Nat.le_of_ble_eq_true rfl) rfl dX3_init_35 (fun H locs hg hS => ?_)
  have hg : gW G z (some a) (ie_3  z) (ic_3 G  z) H := hg
  exact W.vret hx hb hr (fun t ht _ => ⟨rfl, by rw [ht]; exact hg, hS.F ht⟩) hS.2.2 dX3_init_38 hlk
def ie_0  (z : Nat) : va_E := .inr (0, [.ref (z + 0), .ref (z + 1), .ref (z + 2), .ref (z + 3), .ref (z + 4), .int 0])
def ic_0 (G : mG)  (z : Nat) : List va_E := (((((([] : List va_E) ++ [(.inl (G.2.1 .int, 12, .inl fun _ => 0) : va_E)]) ++ [(.inl (G.2.1 .int, 12, .inl fun _ => 0) : va_E)]) ++ [(.inl (G.2.1 .int, 12, .inl fun _ => 0) : va_E)]) ++ [(.inl (G.2.1 .int, 12, .inl fun _ => 0) : va_E)]) ++ (ie_3  (z + 5) :: ic_3 G  (z + 5)))
theorem il_0 (G : mG)  (z : Nat) : (ic_0 G  z).length = 6 := by
  unfold ic_0
  simp only [List.length_append, List.length_set, List.length_cons, List.length_nil, List.length_replicate, il_3]
set_option maxHeartbeats 400000 in
set_option maxRecDepth 100000 in
theorem ci_0 (G : mG) (l : Launch)  (a z : Nat) : gMet G l yX0_init cX0_init 1 { frames := 2, cells := 6, slots := 342, locals := 32 } [] a z (.inr (0, gDef 0)) (ie_0  z) (ic_0 G  z) := by
  refine gMet.of (by decide +kernel) rfl (Nat.le_of_ble_eq_true rfl) ?_
  intro p e s m args below meth c hx hb hml hown hts hr hlk hin2 hK hgK hg ls hl hS
  have hown : s.vm.findClass RX0 = some m.cls := hown
  have hl : lv_has ls 1 [(0, .ref a)] := hl
  have hg : gW G z (some a) (.inr (0, [.null, .null, .null, .null, .null, .int 0])) [] s.heap := hg
  have hcl : ([] : List va_E).length = 0 := rfl
  refine lv_aload_n hx hb dX0_init_0 rfl (lv_at hl 0 rfl) ?_
  refine W.objInit hx hb hown (hts _ ni_mRX0_3) (hts _ ni_oi) (hts _ ni_oc) rfl (by rw [hml]; exact hl.1) rfl dX0_init_1 (Nat.le_of_ble_eq_true rfl) (Nat.le_of_ble_eq_true rfl) ?_
  refine W.eq (g2 := F0 m 4 ls []) rfl ?_
  refine lv_aload_n hx hb dX0_init_4 rfl (lv_at hl 0 rfl) ?_
  refine lv_bipush hx hb dX0_init_5 (v := 12) (by decide) ?_
  refine g_newa (at_ := .int) (ty := .int) (N := 12) (t0 := 0) (a0 := (12, .inl fun _ => 0)) 0 hcl hx hb hts hK hg hS rfl ni_a_int rfl (fun _ _ q => q) (fun _ => rfl) (by decide) (by decide) (by decide) (Nat.le_of_ble_eq_true rfl) (Nat.le_of_ble_eq_true rfl) dX0_init_7 (fun H hg hS hcl => ?_)
  refine g_put [.ref (z + 0), .null, .null, .null, .null, .int 0] (k := 0) hx hb hts hown hin2 hK hg hS cls_0 (by decide) ni_fRX0_9 rfl rfl rfl rfl (Nat.le_of_ble_eq_true rfl) rfl dX0_init_9 (fun H locs hg hS => ?_)
  refine lv_aload_n hx hb dX0_init_12 rfl (lv_at hl 0 rfl) ?_
  refine lv_bipush hx hb dX0_init_13 (v := 12) (by decide) ?_
  refine g_newa (at_ := .int) (ty := .int) (N := 12) (t0 := 0) (a0 := (12, .inl fun _ => 0)) 1 hcl hx hb hts hK hg hS rfl ni_a_int rfl (fun _ _ q => q) (fun _ => rfl) (by decide) (by decide) (by decide) (Nat.le_of_ble_eq_true rfl) (Nat.le_of_ble_eq_true rfl) dX0_init_15 (fun H hg hS hcl => ?_)
  refine g_put [.ref (z + 0), .ref (z + 1), .null, .null, .null, .int 0] (k := 1) hx hb hts hown hin2 hK hg hS cls_0 (by decide) ni_fRX0_15 rfl rfl rfl rfl (Nat.le_of_ble_eq_true rfl) rfl dX0_init_17 (fun H locs hg hS => ?_)
  refine lv_aload_n hx hb dX0_init_20 rfl (lv_at hl 0 rfl) ?_
  refine lv_bipush hx hb dX0_init_21 (v := 12) (by decide) ?_
  refine g_newa (at_ := .int) (ty := .int) (N := 12) (t0 := 0) (a0 := (12, .inl fun _ => 0)) 2 hcl hx hb hts hK hg hS rfl ni_a_int rfl (fun _ _ q => q) (fun _ => rfl) (by decide) (by decide) (by decide) (Nat.le_of_ble_eq_true rfl) (Nat.le_of_ble_eq_true rfl) dX0_init_23 (fun H hg hS hcl => ?_)
  refine g_put [.ref (z + 0), .ref (z + 1), .ref (z + 2), .null, .null, .int 0] (k := 2) hx hb hts hown hin2 hK hg hS cls_0 (by decide) ni_fRX0_18 rfl rfl rfl rfl (Nat.le_of_ble_eq_true rfl) rfl dX0_init_25 (fun H locs hg hS => ?_)
  refine lv_aload_n hx hb dX0_init_28 rfl (lv_at hl 0 rfl) ?_
  refine lv_bipush hx hb dX0_init_29 (v := 12) (by decide) ?_
  refine g_newa (at_ := .int) (ty := .int) (N := 12) (t0 := 0) (a0 := (12, .inl fun _ => 0)) 3 hcl hx hb hts hK hg hS rfl ni_a_int rfl (fun _ _ q => q) (fun _ => rfl) (by decide) (by decide) (by decide) (Nat.le_of_ble_eq_true rfl) (Nat.le_of_ble_eq_true rfl) dX0_init_31 (fun H hg hS hcl => ?_)
  refine g_put [.ref (z + 0), .ref (z + 1), .ref (z + 2), .ref (z + 3), .null, .int 0] (k := 3) hx hb hts hown hin2 hK hg hS cls_0 (by decide) ni_fRX0_21 rfl rfl rfl rfl (Nat.le_of_ble_eq_true rfl) rfl dX0_init_33 (fun H locs hg hS => ?_)
  refine lv_aload_n hx hb dX0_init_36 rfl (lv_at hl 0 rfl) ?_
  refine g_new (c := 3) 4 hcl hx hb hts hown hK hg hS cls_3 ni_cRX0_24 ni_i3 ni_n3 (Nat.le_of_ble_eq_true rfl) (Nat.le_of_ble_eq_true rfl) dX0_init_37 (fun H hg hS => ?_)
  refine lv_dup hx hb dX0_init_40 rfl ?_
  refine g_initl 4 1 hcl (il_3 G  _) hx hb hml hts hown hK hgK hg hS hl.1 (ci_3 G l  _ _) me_X3_init mi_X3_init nl_RX0_26 rfl rfl rfl ⟨(Nat.le_of_ble_eq_true rfl), (Nat.le_of_ble_eq_true rfl)⟩ (Nat.le_of_ble_eq_true rfl) (Nat.le_of_ble_eq_true rfl) (Nat.le_of_ble_eq_true rfl) dX0_init_41 (fun H locs hg hS hcl => ?_)
  refine g_put [.ref (z + 0), .ref (z + 1), .ref (z + 2), .ref (z + 3), .ref (z + 4), .int 0] (k := 4) hx hb hts hown hin2 hK hg hS cls_0 (by decide) ni_fRX0_27 rfl rfl rfl rfl (Nat.le_of_ble_eq_true rfl) rfl dX0_init_44 (fun H locs hg hS => ?_)
  refine lv_aload_n hx hb dX0_init_47 rfl (lv_at hl 0 rfl) ?_
  refine lv_iconst hx hb dX0_init_48 (v := 0) (by decide) ?_
  refine g_put [.ref (z + 0), .ref (z + 1), .ref (z + 2), .ref (z + 3), .ref (z + 4), .int 0] (k := 5) hx hb hts hown hin2 hK hg hS cls_0 (by decide) ni_fRX0_31 rfl rfl rfl rfl (Nat.le_of_ble_eq_true rfl) rfl dX0_init_49 (fun H locs hg hS => ?_)
  have hg : gW G z (some a) (ie_0  z) (ic_0 G  z) H := hg
  exact W.vret hx hb hr (fun t ht _ => ⟨rfl, by rw [ht]; exact hg, hS.F ht⟩) hS.2.2 dX0_init_52 hlk
def ie_8  (z : Nat) : va_E := .inr (8, [.ref (z + 0), .ref (z + 1), .ref (z + 2), .ref (z + 3), .ref (z + 4), .ref (z + 5), .ref (z + 6), .ref (z + 7), .ref (z + 8), .int 0, .long 0, .int 0, .int 0, .long 0, .int (-1), .long (-1)])
def ic_8 (G : mG)  (z : Nat) : List va_E := ((((((((((([] : List va_E) ++ [(.inl (G.2.1 .int, 24, .inl fun _ => 0) : va_E)]) ++ [(.inl (G.2.1 .int, 24, .inl fun _ => 0) : va_E)]) ++ [(.inl (G.2.1 .int, 24, .inl fun _ => 0) : va_E)]) ++ [(.inl (G.2.1 .int, 24, .inl fun _ => 0) : va_E)]) ++ [(.inl (G.2.1 .long, 24, .inr (.inl fun _ => 0)) : va_E)]) ++ [(.inl (G.2.1 .int, 8, .inl fun _ => 0) : va_E)]) ++ [(.inl (G.2.1 .int, 16, .inl fun _ => 0) : va_E)]) ++ [(.inl (G.2.1 .int, 16, .inl fun _ => 0) : va_E)]) ++ [(.inl (G.2.1 .long, 16, .inr (.inl fun _ => 0)) : va_E)]).set 4 (.inl (G.2.1 .long, 24, .inr (.inl fun _ => (-1)))))
theorem il_8 (G : mG)  (z : Nat) : (ic_8 G  z).length = 9 := by
  unfold ic_8
  simp only [List.length_append, List.length_set, List.length_cons, List.length_nil, List.length_replicate]
set_option maxHeartbeats 400000 in
set_option maxRecDepth 100000 in
theorem ci_8 (G : mG) (l : Launch)  (a z : Nat) : gMet G l yX8_init cX8_init 1 { frames := 1, cells := 9, slots := 176, locals := 24 } [] a z (.inr (8, gDef 8)) (ie_8  z) (ic_8 G  z) := by
  refine gMet.of (by decide +kernel) rfl (Nat.le_of_ble_eq_true rfl) ?_
  intro p e s m args below meth c hx hb hml hown hts hr hlk hin2 hK hgK hg ls hl hS
  have hown : s.vm.findClass RX8 = some m.cls := hown
  have hl : lv_has ls 1 [(0, .ref a)] := hl
  have hg : gW G z (some a) (.inr (8, [.null, .null, .null, .null, .null, .null, .null, .null, .null, .int 0, .long 0, .int 0, .int 0, .long 0, .int 0, .long 0])) [] s.heap := hg
  have hcl : ([] : List va_E).length = 0 := rfl
  refine lv_aload_n hx hb dX8_init_0 rfl (lv_at hl 0 rfl) ?_
  refine W.objInit hx hb hown (hts _ ni_mRX8_3) (hts _ ni_oi) (hts _ ni_oc) rfl (by rw [hml]; exact hl.1) rfl dX8_init_1 (Nat.le_of_ble_eq_true rfl) (Nat.le_of_ble_eq_true rfl) ?_
  refine W.eq (g2 := F0 m 4 ls []) rfl ?_
  refine lv_aload_n hx hb dX8_init_4 rfl (lv_at hl 0 rfl) ?_
  refine lv_bipush hx hb dX8_init_5 (v := 24) (by decide) ?_
  refine g_newa (at_ := .int) (ty := .int) (N := 24) (t0 := 0) (a0 := (24, .inl fun _ => 0)) 0 hcl hx hb hts hK hg hS rfl ni_a_int rfl (fun _ _ q => q) (fun _ => rfl) (by decide) (by decide) (by decide) (Nat.le_of_ble_eq_true rfl) (Nat.le_of_ble_eq_true rfl) dX8_init_7 (fun H hg hS hcl => ?_)
  refine g_put [.ref (z + 0), .null, .null, .null, .null, .null, .null, .null, .null, .int 0, .long 0, .int 0, .int 0, .long 0, .int 0, .long 0] (k := 0) hx hb hts hown hin2 hK hg hS cls_8 (by decide) ni_fRX8_9 rfl rfl rfl rfl (Nat.le_of_ble_eq_true rfl) rfl dX8_init_9 (fun H locs hg hS => ?_)
  refine lv_aload_n hx hb dX8_init_12 rfl (lv_at hl 0 rfl) ?_
  refine lv_bipush hx hb dX8_init_13 (v := 24) (by decide) ?_
  refine g_newa (at_ := .int) (ty := .int) (N := 24) (t0 := 0) (a0 := (24, .inl fun _ => 0)) 1 hcl hx hb hts hK hg hS rfl ni_a_int rfl (fun _ _ q => q) (fun _ => rfl) (by decide) (by decide) (by decide) (Nat.le_of_ble_eq_true rfl) (Nat.le_of_ble_eq_true rfl) dX8_init_15 (fun H hg hS hcl => ?_)
  refine g_put [.ref (z + 0), .ref (z + 1), .null, .null, .null, .null, .null, .null, .null, .int 0, .long 0, .int 0, .int 0, .long 0, .int 0, .long 0] (k := 1) hx hb hts hown hin2 hK hg hS cls_8 (by decide) ni_fRX8_15 rfl rfl rfl rfl (Nat.le_of_ble_eq_true rfl) rfl dX8_init_17 (fun H locs hg hS => ?_)
  refine lv_aload_n hx hb dX8_init_20 rfl (lv_at hl 0 rfl) ?_
  refine lv_bipush hx hb dX8_init_21 (v := 24) (by decide) ?_
  refine g_newa (at_ := .int) (ty := .int) (N := 24) (t0 := 0) (a0 := (24, .inl fun _ => 0)) 2 hcl hx hb hts hK hg hS rfl ni_a_int rfl (fun _ _ q => q) (fun _ => rfl) (by decide) (by decide) (by decide) (Nat.le_of_ble_eq_true rfl) (Nat.le_of_ble_eq_true rfl) dX8_init_23 (fun H hg hS hcl => ?_)
  refine g_put [.ref (z + 0), .ref (z + 1), .ref (z + 2), .null, .null, .null, .null, .null, .null, .int 0, .long 0, .int 0, .int 0, .long 0, .int 0, .long 0] (k := 2) hx hb hts hown hin2 hK hg hS cls_8 (by decide) ni_fRX8_18 rfl rfl rfl rfl (Nat.le_of_ble_eq_true rfl) rfl dX8_init_25 (fun H locs hg hS => ?_)
  refine lv_aload_n hx hb dX8_init_28 rfl (lv_at hl 0 rfl) ?_
  refine lv_bipush hx hb dX8_init_29 (v := 24) (by decide) ?_
  refine g_newa (at_ := .int) (ty := .int) (N := 24) (t0 := 0) (a0 := (24, .inl fun _ => 0)) 3 hcl hx hb hts hK hg hS rfl ni_a_int rfl (fun _ _ q => q) (fun _ => rfl) (by decide) (by decide) (by decide) (Nat.le_of_ble_eq_true rfl) (Nat.le_of_ble_eq_true rfl) dX8_init_31 (fun H hg hS hcl => ?_)
  refine g_put [.ref (z + 0), .ref (z + 1), .ref (z + 2), .ref (z + 3), .null, .null, .null, .null, .null, .int 0, .long 0, .int 0, .int 0, .long 0, .int 0, .long 0] (k := 3) hx hb hts hown hin2 hK hg hS cls_8 (by decide) ni_fRX8_21 rfl rfl rfl rfl (Nat.le_of_ble_eq_true rfl) rfl dX8_init_33 (fun H locs hg hS => ?_)
  refine lv_aload_n hx hb dX8_init_36 rfl (lv_at hl 0 rfl) ?_
  refine lv_bipush hx hb dX8_init_37 (v := 24) (by decide) ?_
  refine g_newa (at_ := .long) (ty := .long) (N := 24) (t0 := 1) (a0 := (24, .inr (.inl fun _ => 0))) 4 hcl hx hb hts hK hg hS rfl ni_a_long rfl (fun _ _ q => q) (fun _ => rfl) (by decide) (by decide) (by decide) (Nat.le_of_ble_eq_true rfl) (Nat.le_of_ble_eq_true rfl) dX8_init_39 (fun H hg hS hcl => ?_)
  refine g_put [.ref (z + 0), .ref (z + 1), .ref (z + 2), .ref (z + 3), .ref (z + 4), .null, .null, .null, .null, .int 0, .long 0, .int 0, .int 0, .long 0, .int 0, .long 0] (k := 4) hx hb hts hown hin2 hK hg hS cls_8 (by decide) ni_fRX8_24 rfl rfl rfl rfl (Nat.le_of_ble_eq_true rfl) rfl dX8_init_41 (fun H locs hg hS => ?_)
  refine lv_aload_n hx hb dX8_init_44 rfl (lv_at hl 0 rfl) ?_
  refine lv_bipush hx hb dX8_init_45 (v := 8) (by decide) ?_
  refine g_newa (at_ := .int) (ty := .int) (N := 8) (t0 := 0) (a0 := (8, .inl fun _ => 0)) 5 hcl hx hb hts hK hg hS rfl ni_a_int rfl (fun _ _ q => q) (fun _ => rfl) (by decide) (by decide) (by decide) (Nat.le_of_ble_eq_true rfl) (Nat.le_of_ble_eq_true rfl) dX8_init_47 (fun H hg hS hcl => ?_)
  refine g_put [.ref (z + 0), .ref (z + 1), .ref (z + 2), .ref (z + 3), .ref (z + 4), .ref (z + 5), .null, .null, .null, .int 0, .long 0, .int 0, .int 0, .long 0, .int 0, .long 0] (k := 5) hx hb hts hown hin2 hK hg hS cls_8 (by decide) ni_fRX8_28 rfl rfl rfl rfl (Nat.le_of_ble_eq_true rfl) rfl dX8_init_49 (fun H locs hg hS => ?_)
  refine lv_aload_n hx hb dX8_init_52 rfl (lv_at hl 0 rfl) ?_
  refine lv_bipush hx hb dX8_init_53 (v := 16) (by decide) ?_
  refine g_newa (at_ := .int) (ty := .int) (N := 16) (t0 := 0) (a0 := (16, .inl fun _ => 0)) 6 hcl hx hb hts hK hg hS rfl ni_a_int rfl (fun _ _ q => q) (fun _ => rfl) (by decide) (by decide) (by decide) (Nat.le_of_ble_eq_true rfl) (Nat.le_of_ble_eq_true rfl) dX8_init_55 (fun H hg hS hcl => ?_)
  refine g_put [.ref (z + 0), .ref (z + 1), .ref (z + 2), .ref (z + 3), .ref (z + 4), .ref (z + 5), .ref (z + 6), .null, .null, .int 0, .long 0, .int 0, .int 0, .long 0, .int 0, .long 0] (k := 6) hx hb hts hown hin2 hK hg hS cls_8 (by decide) ni_fRX8_31 rfl rfl rfl rfl (Nat.le_of_ble_eq_true rfl) rfl dX8_init_57 (fun H locs hg hS => ?_)
  refine lv_aload_n hx hb dX8_init_60 rfl (lv_at hl 0 rfl) ?_
  refine lv_bipush hx hb dX8_init_61 (v := 16) (by decide) ?_
  refine g_newa (at_ := .int) (ty := .int) (N := 16) (t0 := 0) (a0 := (16, .inl fun _ => 0)) 7 hcl hx hb hts hK hg hS rfl ni_a_int rfl (fun _ _ q => q) (fun _ => rfl) (by decide) (by decide) (by decide) (Nat.le_of_ble_eq_true rfl) (Nat.le_of_ble_eq_true rfl) dX8_init_63 (fun H hg hS hcl => ?_)
  refine g_put [.ref (z + 0), .ref (z + 1), .ref (z + 2), .ref (z + 3), .ref (z + 4), .ref (z + 5), .ref (z + 6), .ref (z + 7), .null, .int 0, .long 0, .int 0, .int 0, .long 0, .int 0, .long 0] (k := 7) hx hb hts hown hin2 hK hg hS cls_8 (by decide) ni_fRX8_34 rfl rfl rfl rfl (Nat.le_of_ble_eq_true rfl) rfl dX8_init_65 (fun H locs hg hS => ?_)
  refine lv_aload_n hx hb dX8_init_68 rfl (lv_at hl 0 rfl) ?_
  refine lv_bipush hx hb dX8_init_69 (v := 16) (by decide) ?_
  refine g_newa (at_ := .long) (ty := .long) (N := 16) (t0 := 1) (a0 := (16, .inr (.inl fun _ => 0))) 8 hcl hx hb hts hK hg hS rfl ni_a_long rfl (fun _ _ q => q) (fun _ => rfl) (by decide) (by decide) (by decide) (Nat.le_of_ble_eq_true rfl) (Nat.le_of_ble_eq_true rfl) dX8_init_71 (fun H hg hS hcl => ?_)
  refine g_put [.ref (z + 0), .ref (z + 1), .ref (z + 2), .ref (z + 3), .ref (z + 4), .ref (z + 5), .ref (z + 6), .ref (z + 7), .ref (z + 8), .int 0, .long 0, .int 0, .int 0, .long 0, .int 0, .long 0] (k := 8) hx hb hts hown hin2 hK hg hS cls_8 (by decide) ni_fRX8_37 rfl rfl rfl rfl (Nat.le_of_ble_eq_true rfl) rfl dX8_init_73 (fun H locs hg hS => ?_)
  refine lv_aload_n hx hb dX8_init_76 rfl (lv_at hl 0 rfl) ?_
  refine lv_iconst hx hb dX8_init_77 (v := 0) (by decide) ?_
  refine g_put [.ref (z + 0), .ref (z + 1), .ref (z + 2), .ref (z + 3), .ref (z + 4), .ref (z + 5), .ref (z + 6), .ref (z + 7), .ref (z + 8), .int 0, .long 0, .int 0, .int 0, .long 0, .int 0, .long 0] (k := 9) hx hb hts hown hin2 hK hg hS cls_8 (by decide) ni_fRX8_40 rfl rfl rfl rfl (Nat.le_of_ble_eq_true rfl) rfl dX8_init_78 (fun H locs hg hS => ?_)
  refine lv_aload_n hx hb dX8_init_81 rfl (lv_at hl 0 rfl) ?_
  refine lv_lconst hx hb dX8_init_82 (v := 0) (by decide) ?_
  refine g_put [.ref (z + 0), .ref (z + 1), .ref (z + 2), .ref (z + 3), .ref (z + 4), .ref (z + 5), .ref (z + 6), .ref (z + 7), .ref (z + 8), .int 0, .long 0, .int 0, .int 0, .long 0, .int 0, .long 0] (k := 10) hx hb hts hown hin2 hK hg hS cls_8 (by decide) ni_fRX8_44 rfl rfl rfl rfl (Nat.le_of_ble_eq_true rfl) rfl dX8_init_83 (fun H locs hg hS => ?_)
  refine lv_aload_n hx hb dX8_init_86 rfl (lv_at hl 0 rfl) ?_
  refine lv_iconst hx hb dX8_init_87 (v := 0) (by decide) ?_
  refine g_put [.ref (z + 0), .ref (z + 1), .ref (z + 2), .ref (z + 3), .ref (z + 4), .ref (z + 5), .ref (z + 6), .ref (z + 7), .ref (z + 8), .int 0, .long 0, .int 0, .int 0, .long 0, .int 0, .long 0] (k := 11) hx hb hts hown hin2 hK hg hS cls_8 (by decide) ni_fRX8_48 rfl rfl rfl rfl (Nat.le_of_ble_eq_true rfl) rfl dX8_init_88 (fun H locs hg hS => ?_)
  refine lv_aload_n hx hb dX8_init_91 rfl (lv_at hl 0 rfl) ?_
  refine lv_iconst hx hb dX8_init_92 (v := 0) (by decide) ?_
  refine g_put [.ref (z + 0), .ref (z + 1), .ref (z + 2), .ref (z + 3), .ref (z + 4), .ref (z + 5), .ref (z + 6), .ref (z + 7), .ref (z + 8), .int 0, .long 0, .int 0, .int 0, .long 0, .int 0, .long 0] (k := 12) hx hb hts hown hin2 hK hg hS cls_8 (by decide) ni_fRX8_51 rfl rfl rfl rfl (Nat.le_of_ble_eq_true rfl) rfl dX8_init_93 (fun H locs hg hS => ?_)
  refine lv_aload_n hx hb dX8_init_96 rfl (lv_at hl 0 rfl) ?_
  refine lv_lconst hx hb dX8_init_97 (v := 0) (by decide) ?_
  refine g_put [.ref (z + 0), .ref (z + 1), .ref (z + 2), .ref (z + 3), .ref (z + 4), .ref (z + 5), .ref (z + 6), .ref (z + 7), .ref (z + 8), .int 0, .long 0, .int 0, .int 0, .long 0, .int 0, .long 0] (k := 13) hx hb hts hown hin2 hK hg hS cls_8 (by decide) ni_fRX8_54 rfl rfl rfl rfl (Nat.le_of_ble_eq_true rfl) rfl dX8_init_98 (fun H locs hg hS => ?_)
  refine lv_aload_n hx hb dX8_init_101 rfl (lv_at hl 0 rfl) ?_
  refine lv_iconst hx hb dX8_init_102 (v := (-1)) (by decide) ?_
  refine g_put [.ref (z + 0), .ref (z + 1), .ref (z + 2), .ref (z + 3), .ref (z + 4), .ref (z + 5), .ref (z + 6), .ref (z + 7), .ref (z + 8), .int 0, .long 0, .int 0, .int 0, .long 0, .int (-1), .long 0] (k := 14) hx hb hts hown hin2 hK hg hS cls_8 (by decide) ni_fRX8_57 rfl rfl rfl rfl (Nat.le_of_ble_eq_true rfl) rfl dX8_init_103 (fun H locs hg hS => ?_)
  refine lv_aload_n hx hb dX8_init_106 rfl (lv_at hl 0 rfl) ?_
  refine lv_ldc2 hx hb hown (hts _ ni_kRX8_60) dX8_init_107 ?_
  refine g_put [.ref (z + 0), .ref (z + 1), .ref (z + 2), .ref (z + 3), .ref (z + 4), .ref (z + 5), .ref (z + 6), .ref (z + 7), .ref (z + 8), .int 0, .long 0, .int 0, .int 0, .long 0, .int (-1), .long (-1)] (k := 15) hx hb hts hown hin2 hK hg hS cls_8 (by decide) ni_fRX8_62 rfl rfl rfl rfl (Nat.le_of_ble_eq_true rfl) rfl dX8_init_110 (fun H locs hg hS => ?_)
  refine lv_aload_n hx hb dX8_init_113 rfl (lv_at hl 0 rfl) ?_
  refine g_get (k := 4) (v := .ref (z + 4)) hx hb hts hown hK hg cls_8 (by decide) ni_fRX8_24 rfl dX8_init_114 ?_
  refine lv_ldc2 hx hb hown (hts _ ni_kRX8_60) dX8_init_117 ?_
  refine g_fill (j := 4) (n := 24) 9 hcl hx hb hml hts hown hK hg hS hl.1 me_J7_fill_d0a16 ni_sf ni_mRX8_65 rfl (by decide) ⟨(Nat.le_of_ble_eq_true rfl), (Nat.le_of_ble_eq_true rfl)⟩ (Nat.le_of_ble_eq_true rfl) (Nat.le_of_ble_eq_true rfl) (Nat.le_of_ble_eq_true rfl) dX8_init_120 (fun H locs hg hS hcl => ?_)
  have hg : gW G z (some a) (ie_8  z) (ic_8 G  z) H := hg
  exact W.vret hx hb hr (fun t ht _ => ⟨rfl, by rw [ht]; exact hg, hS.F ht⟩) hS.2.2 dX8_init_123 hlk
def ie_2 (b1 : Nat) (b2 : Nat) (z : Nat) : va_E := .inr (2, [.ref b1, .ref b2, .ref (z + 0), .ref (z + 9), .ref (z + 10), .ref (z + 11), .int 0])
def ic_2 (G : mG) (b1 : Nat) (b2 : Nat) (z : Nat) : List va_E := ((((([] : List va_E) ++ ((.inl (G.2.1 (.array .int), 8, .inr (.inr (.inr (.inr (fun i => some (z + 0 + 1 + i)))))) : va_E) :: List.replicate 8 (.inl (G.2.1 .int, 16, .inl (fun _ => 0)) : va_E))) ++ [(.inl (G.2.1 .int, 8, .inl fun _ => 0) : va_E)]) ++ [(.inl (G.2.1 .int, 8, .inl fun _ => 0) : va_E)]) ++ [(.inl (G.2.1 .int, 24, .inl fun _ => 0) : va_E)])
theorem il_2 (G : mG) (b1 : Nat) (b2 : Nat) (z : Nat) : (ic_2 G b1 b2 z).length = 12 := by
  unfold ic_2
  simp only [List.length_append, List.length_set, List.length_cons, List.length_nil, List.length_replicate]
set_option maxHeartbeats 400000 in
set_option maxRecDepth 100000 in
theorem ci_2 (G : mG) (l : Launch) (b1 : Nat) (b2 : Nat) (a z : Nat) : gMet G l yX2_init cX2_init 3 { frames := 1, cells := 12, slots := 176, locals := 12 } [.ref b1, .ref b2] a z (.inr (2, gDef 2)) (ie_2 b1 b2 z) (ic_2 G b1 b2 z) := by
  refine gMet.of (by decide +kernel) rfl (Nat.le_of_ble_eq_true rfl) ?_
  intro p e s m args below meth c hx hb hml hown hts hr hlk hin2 hK hgK hg ls hl hS
  have hown : s.vm.findClass RX2 = some m.cls := hown
  have hl : lv_has ls 3 [(0, .ref a), (1, .ref b1), (2, .ref b2)] := hl
  have hg : gW G z (some a) (.inr (2, [.null, .null, .null, .null, .null, .null, .int 0])) [] s.heap := hg
  have hcl : ([] : List va_E).length = 0 := rfl
  refine lv_aload_n hx hb dX2_init_0 rfl (lv_at hl 0 rfl) ?_
  refine W.objInit hx hb hown (hts _ ni_mRX2_3) (hts _ ni_oi) (hts _ ni_oc) rfl (by rw [hml]; exact hl.1) rfl dX2_init_1 (Nat.le_of_ble_eq_true rfl) (Nat.le_of_ble_eq_true rfl) ?_
  refine W.eq (g2 := F0 m 4 ls []) rfl ?_
  refine lv_aload_n hx hb dX2_init_4 rfl (lv_at hl 0 rfl) ?_
  refine lv_bipush hx hb dX2_init_5 (v := 8) (by decide) ?_
  refine lv_bipush hx hb dX2_init_7 (v := 16) (by decide) ?_
  refine g_mna (N := 8) (K := 16) (t0 := 3) 0 hcl hx hb hts hown hK hgK hg hS ni_cRX2_9 ni_a_int rfl (by decide) (by decide) (by decide) (by decide) (by decide) (by decide) (by decide) (Nat.le_of_ble_eq_true rfl) (Nat.le_of_ble_eq_true rfl) dX2_init_9 (fun H hg hS hcl => ?_)
  refine g_put [.null, .null, .ref (z + 0), .null, .null, .null, .int 0] (k := 2) hx hb hts hown hin2 hK hg hS cls_2 (by decide) ni_fRX2_11 rfl rfl rfl rfl (Nat.le_of_ble_eq_true rfl) rfl dX2_init_13 (fun H locs hg hS => ?_)
  refine lv_aload_n hx hb dX2_init_16 rfl (lv_at hl 0 rfl) ?_
  refine lv_bipush hx hb dX2_init_17 (v := 8) (by decide) ?_
  refine g_newa (at_ := .int) (ty := .int) (N := 8) (t0 := 0) (a0 := (8, .inl fun _ => 0)) 9 hcl hx hb hts hK hg hS rfl ni_a_int rfl (fun _ _ q => q) (fun _ => rfl) (by decide) (by decide) (by decide) (Nat.le_of_ble_eq_true rfl) (Nat.le_of_ble_eq_true rfl) dX2_init_19 (fun H hg hS hcl => ?_)
  refine g_put [.null, .null, .ref (z + 0), .ref (z + 9), .null, .null, .int 0] (k := 3) hx hb hts hown hin2 hK hg hS cls_2 (by decide) ni_fRX2_16 rfl rfl rfl rfl (Nat.le_of_ble_eq_true rfl) rfl dX2_init_21 (fun H locs hg hS => ?_)
  refine lv_aload_n hx hb dX2_init_24 rfl (lv_at hl 0 rfl) ?_
  refine lv_bipush hx hb dX2_init_25 (v := 8) (by decide) ?_
  refine g_newa (at_ := .int) (ty := .int) (N := 8) (t0 := 0) (a0 := (8, .inl fun _ => 0)) 10 hcl hx hb hts hK hg hS rfl ni_a_int rfl (fun _ _ q => q) (fun _ => rfl) (by decide) (by decide) (by decide) (Nat.le_of_ble_eq_true rfl) (Nat.le_of_ble_eq_true rfl) dX2_init_27 (fun H hg hS hcl => ?_)
  refine g_put [.null, .null, .ref (z + 0), .ref (z + 9), .ref (z + 10), .null, .int 0] (k := 4) hx hb hts hown hin2 hK hg hS cls_2 (by decide) ni_fRX2_20 rfl rfl rfl rfl (Nat.le_of_ble_eq_true rfl) rfl dX2_init_29 (fun H locs hg hS => ?_)
  refine lv_aload_n hx hb dX2_init_32 rfl (lv_at hl 0 rfl) ?_
  refine lv_bipush hx hb dX2_init_33 (v := 24) (by decide) ?_
  refine g_newa (at_ := .int) (ty := .int) (N := 24) (t0 := 0) (a0 := (24, .inl fun _ => 0)) 11 hcl hx hb hts hK hg hS rfl ni_a_int rfl (fun _ _ q => q) (fun _ => rfl) (by decide) (by decide) (by decide) (Nat.le_of_ble_eq_true rfl) (Nat.le_of_ble_eq_true rfl) dX2_init_35 (fun H hg hS hcl => ?_)
  refine g_put [.null, .null, .ref (z + 0), .ref (z + 9), .ref (z + 10), .ref (z + 11), .int 0] (k := 5) hx hb hts hown hin2 hK hg hS cls_2 (by decide) ni_fRX2_23 rfl rfl rfl rfl (Nat.le_of_ble_eq_true rfl) rfl dX2_init_37 (fun H locs hg hS => ?_)
  refine lv_aload_n hx hb dX2_init_40 rfl (lv_at hl 0 rfl) ?_
  refine lv_iconst hx hb dX2_init_41 (v := 0) (by decide) ?_
  refine g_put [.null, .null, .ref (z + 0), .ref (z + 9), .ref (z + 10), .ref (z + 11), .int 0] (k := 6) hx hb hts hown hin2 hK hg hS cls_2 (by decide) ni_fRX2_26 rfl rfl rfl rfl (Nat.le_of_ble_eq_true rfl) rfl dX2_init_42 (fun H locs hg hS => ?_)
  refine lv_aload_n hx hb dX2_init_45 rfl (lv_at hl 0 rfl) ?_
  refine lv_aload_n hx hb dX2_init_46 rfl (lv_at hl 1 rfl) ?_
  refine g_put [.ref b1, .null, .ref (z + 0), .ref (z + 9), .ref (z + 10), .ref (z + 11), .int 0] (k := 0) hx hb hts hown hin2 hK hg hS cls_2 (by decide) ni_fRX2_30 rfl rfl rfl rfl (Nat.le_of_ble_eq_true rfl) rfl dX2_init_47 (fun H locs hg hS => ?_)
  refine lv_aload_n hx hb dX2_init_50 rfl (lv_at hl 0 rfl) ?_
  refine lv_aload_n hx hb dX2_init_51 rfl (lv_at hl 2 rfl) ?_
  refine g_put [.ref b1, .ref b2, .ref (z + 0), .ref (z + 9), .ref (z + 10), .ref (z + 11), .int 0] (k := 1) hx hb hts hown hin2 hK hg hS cls_2 (by decide) ni_fRX2_34 rfl rfl rfl rfl (Nat.le_of_ble_eq_true rfl) rfl dX2_init_52 (fun H locs hg hS => ?_)
  have hg : gW G z (some a) (ie_2 b1 b2 z) (ic_2 G b1 b2 z) H := hg
  exact W.vret hx hb hr (fun t ht _ => ⟨rfl, by rw [ht]; exact hg, hS.F ht⟩) hS.2.2 dX2_init_55 hlk
def ie_5 (b1 : Nat) (b2 : Nat) (b3 : Nat) (z : Nat) : va_E := .inr (5, [.ref b1, .ref b2, .ref b3, .ref (z + 0), .ref (z + 1), .int 0])
def ic_5 (G : mG) (b1 : Nat) (b2 : Nat) (b3 : Nat) (z : Nat) : List va_E := ((([] : List va_E) ++ (ie_4  (z + 1) :: ([] : List va_E))) ++ (ie_4  (z + 2) :: ([] : List va_E)))
theorem il_5 (G : mG) (b1 : Nat) (b2 : Nat) (b3 : Nat) (z : Nat) : (ic_5 G b1 b2 b3 z).length = 2 := by
  unfold ic_5
  simp only [List.length_append, List.length_set, List.length_cons, List.length_nil, List.length_replicate]
set_option maxHeartbeats 400000 in
set_option maxRecDepth 100000 in
theorem ci_5 (G : mG) (l : Launch) (b1 : Nat) (b2 : Nat) (b3 : Nat) (a z : Nat) : gMet G l yX5_init cX5_init 4 { frames := 2, cells := 2, slots := 8, locals := 32 } [.ref b1, .ref b2, .ref b3] a z (.inr (5, gDef 5)) (ie_5 b1 b2 b3 z) (ic_5 G b1 b2 b3 z) := by
  refine gMet.of (by decide +kernel) rfl (Nat.le_of_ble_eq_true rfl) ?_
  intro p e s m args below meth c hx hb hml hown hts hr hlk hin2 hK hgK hg ls hl hS
  have hown : s.vm.findClass RX5 = some m.cls := hown
  have hl : lv_has ls 4 [(0, .ref a), (1, .ref b1), (2, .ref b2), (3, .ref b3)] := hl
  have hg : gW G z (some a) (.inr (5, [.null, .null, .null, .null, .null, .int 0])) [] s.heap := hg
  have hcl : ([] : List va_E).length = 0 := rfl
  refine lv_aload_n hx hb dX5_init_0 rfl (lv_at hl 0 rfl) ?_
  refine W.objInit hx hb hown (hts _ ni_mRX5_5) (hts _ ni_oi) (hts _ ni_oc) rfl (by rw [hml]; exact hl.1) rfl dX5_init_1 (Nat.le_of_ble_eq_true rfl) (Nat.le_of_ble_eq_true rfl) ?_
  refine W.eq (g2 := F0 m 4 ls []) rfl ?_
  refine lv_aload_n hx hb dX5_init_4 rfl (lv_at hl 0 rfl) ?_
  refine g_new (c := 4) 0 hcl hx hb hts hown hK hg hS cls_4 ni_cRX5_11 ni_i4 ni_n4 (Nat.le_of_ble_eq_true rfl) (Nat.le_of_ble_eq_true rfl) dX5_init_5 (fun H hg hS => ?_)
  refine lv_dup hx hb dX5_init_8 rfl ?_
  refine g_initl 0 0 hcl rfl hx hb hml hts hown hK hgK hg hS hl.1 (ci_4 G l  _ _) me_X4_init mi_X4_init nl_RX5_13 rfl rfl rfl ⟨(Nat.le_of_ble_eq_true rfl), (Nat.le_of_ble_eq_true rfl)⟩ (Nat.le_of_ble_eq_true rfl) (Nat.le_of_ble_eq_true rfl) (Nat.le_of_ble_eq_true rfl) dX5_init_9 (fun H locs hg hS hcl => ?_)
  refine g_put [.null, .null, .null, .ref (z + 0), .null, .int 0] (k := 3) hx hb hts hown hin2 hK hg hS cls_5 (by decide) ni_fRX5_14 rfl rfl rfl rfl (Nat.le_of_ble_eq_true rfl) rfl dX5_init_12 (fun H locs hg hS => ?_)
  refine lv_aload_n hx hb dX5_init_15 rfl (lv_at hl 0 rfl) ?_
  refine g_new (c := 4) 1 hcl hx hb hts hown hK hg hS cls_4 ni_cRX5_11 ni_i4 ni_n4 (Nat.le_of_ble_eq_true rfl) (Nat.le_of_ble_eq_true rfl) dX5_init_16 (fun H hg hS => ?_)
  refine lv_dup hx hb dX5_init_19 rfl ?_
  refine g_initl 1 0 hcl rfl hx hb hml hts hown hK hgK hg hS hl.1 (ci_4 G l  _ _) me_X4_init mi_X4_init nl_RX5_13 rfl rfl rfl ⟨(Nat.le_of_ble_eq_true rfl), (Nat.le_of_ble_eq_true rfl)⟩ (Nat.le_of_ble_eq_true rfl) (Nat.le_of_ble_eq_true rfl) (Nat.le_of_ble_eq_true rfl) dX5_init_20 (fun H locs hg hS hcl => ?_)
  refine g_put [.null, .null, .null, .ref (z + 0), .ref (z + 1), .int 0] (k := 4) hx hb hts hown hin2 hK hg hS cls_5 (by decide) ni_fRX5_20 rfl rfl rfl rfl (Nat.le_of_ble_eq_true rfl) rfl dX5_init_23 (fun H locs hg hS => ?_)
  refine lv_aload_n hx hb dX5_init_26 rfl (lv_at hl 0 rfl) ?_
  refine lv_iconst hx hb dX5_init_27 (v := 0) (by decide) ?_
  refine g_put [.null, .null, .null, .ref (z + 0), .ref (z + 1), .int 0] (k := 5) hx hb hts hown hin2 hK hg hS cls_5 (by decide) ni_fRX5_23 rfl rfl (by decide) rfl (Nat.le_of_ble_eq_true rfl) rfl dX5_init_28 (fun H locs hg hS => ?_)
  refine lv_aload_n hx hb dX5_init_31 rfl (lv_at hl 0 rfl) ?_
  refine lv_aload_n hx hb dX5_init_32 rfl (lv_at hl 1 rfl) ?_
  refine g_put [.ref b1, .null, .null, .ref (z + 0), .ref (z + 1), .int 0] (k := 0) hx hb hts hown hin2 hK hg hS cls_5 (by decide) ni_fRX5_27 rfl rfl rfl rfl (Nat.le_of_ble_eq_true rfl) rfl dX5_init_33 (fun H locs hg hS => ?_)
  refine lv_aload_n hx hb dX5_init_36 rfl (lv_at hl 0 rfl) ?_
  refine lv_aload_n hx hb dX5_init_37 rfl (lv_at hl 2 rfl) ?_
  refine g_put [.ref b1, .ref b2, .null, .ref (z + 0), .ref (z + 1), .int 0] (k := 1) hx hb hts hown hin2 hK hg hS cls_5 (by decide) ni_fRX5_31 rfl rfl rfl rfl (Nat.le_of_ble_eq_true rfl) rfl dX5_init_38 (fun H locs hg hS => ?_)
  refine lv_aload_n hx hb dX5_init_41 rfl (lv_at hl 0 rfl) ?_
  refine lv_aload_n hx hb dX5_init_42 rfl (lv_at hl 3 rfl) ?_
  refine g_put [.ref b1, .ref b2, .ref b3, .ref (z + 0), .ref (z + 1), .int 0] (k := 2) hx hb hts hown hin2 hK hg hS cls_5 (by decide) ni_fRX5_35 rfl rfl rfl rfl (Nat.le_of_ble_eq_true rfl) rfl dX5_init_43 (fun H locs hg hS => ?_)
  have hg : gW G z (some a) (ie_5 b1 b2 b3 z) (ic_5 G b1 b2 b3 z) H := hg
  exact W.vret hx hb hr (fun t ht _ => ⟨rfl, by rw [ht]; exact hg, hS.F ht⟩) hS.2.2 dX5_init_46 hlk
def ie_9  (z : Nat) : va_E := .inr (9, [.int 0, .int 0, .ref (z + 0), .ref (z + 1), .int 0])
def ic_9 (G : mG)  (z : Nat) : List va_E := ((([] : List va_E) ++ [(.inl (G.2.1 .long, 64, .inr (.inl fun _ => 0)) : va_E)]) ++ (ie_8  (z + 2) :: ic_8 G  (z + 2)))
theorem il_9 (G : mG)  (z : Nat) : (ic_9 G  z).length = 11 := by
  unfold ic_9
  simp only [List.length_append, List.length_set, List.length_cons, List.length_nil, List.length_replicate, il_8]
set_option maxHeartbeats 400000 in
set_option maxRecDepth 100000 in
theorem ci_9 (G : mG) (l : Launch)  (a z : Nat) : gMet G l yX9_init cX9_init 1 { frames := 2, cells := 11, slots := 256, locals := 44 } [] a z (.inr (9, gDef 9)) (ie_9  z) (ic_9 G  z) := by
  refine gMet.of (by decide +kernel) rfl (Nat.le_of_ble_eq_true rfl) ?_
  intro p e s m args below meth c hx hb hml hown hts hr hlk hin2 hK hgK hg ls hl hS
  have hown : s.vm.findClass RX9 = some m.cls := hown
  have hl : lv_has ls 1 [(0, .ref a)] := hl
  have hg : gW G z (some a) (.inr (9, [.int 0, .int 0, .null, .null, .int 0])) [] s.heap := hg
  have hcl : ([] : List va_E).length = 0 := rfl
  refine lv_aload_n hx hb dX9_init_0 rfl (lv_at hl 0 rfl) ?_
  refine W.objInit hx hb hown (hts _ ni_mRX9_3) (hts _ ni_oi) (hts _ ni_oc) rfl (by rw [hml]; exact hl.1) rfl dX9_init_1 (Nat.le_of_ble_eq_true rfl) (Nat.le_of_ble_eq_true rfl) ?_
  refine W.eq (g2 := F0 m 4 ls []) rfl ?_
  refine lv_aload_n hx hb dX9_init_4 rfl (lv_at hl 0 rfl) ?_
  refine lv_iconst hx hb dX9_init_5 (v := 0) (by decide) ?_
  refine g_put [.int 0, .int 0, .null, .null, .int 0] (k := 0) hx hb hts hown hin2 hK hg hS cls_9 (by decide) ni_fRX9_11 rfl rfl rfl rfl (Nat.le_of_ble_eq_true rfl) rfl dX9_init_6 (fun H locs hg hS => ?_)
  refine lv_aload_n hx hb dX9_init_9 rfl (lv_at hl 0 rfl) ?_
  refine lv_iconst hx hb dX9_init_10 (v := 0) (by decide) ?_
  refine g_put [.int 0, .int 0, .null, .null, .int 0] (k := 1) hx hb hts hown hin2 hK hg hS cls_9 (by decide) ni_fRX9_15 rfl rfl rfl rfl (Nat.le_of_ble_eq_true rfl) rfl dX9_init_11 (fun H locs hg hS => ?_)
  refine lv_aload_n hx hb dX9_init_14 rfl (lv_at hl 0 rfl) ?_
  refine lv_bipush hx hb dX9_init_15 (v := 64) (by decide) ?_
  refine g_newa (at_ := .long) (ty := .long) (N := 64) (t0 := 1) (a0 := (64, .inr (.inl fun _ => 0))) 0 hcl hx hb hts hK hg hS rfl ni_a_long rfl (fun _ _ q => q) (fun _ => rfl) (by decide) (by decide) (by decide) (Nat.le_of_ble_eq_true rfl) (Nat.le_of_ble_eq_true rfl) dX9_init_17 (fun H hg hS hcl => ?_)
  refine g_put [.int 0, .int 0, .ref (z + 0), .null, .int 0] (k := 2) hx hb hts hown hin2 hK hg hS cls_9 (by decide) ni_fRX9_18 rfl rfl rfl rfl (Nat.le_of_ble_eq_true rfl) rfl dX9_init_19 (fun H locs hg hS => ?_)
  refine lv_aload_n hx hb dX9_init_22 rfl (lv_at hl 0 rfl) ?_
  refine g_new (c := 8) 1 hcl hx hb hts hown hK hg hS cls_8 ni_cRX9_22 ni_i8 ni_n8 (Nat.le_of_ble_eq_true rfl) (Nat.le_of_ble_eq_true rfl) dX9_init_23 (fun H hg hS => ?_)
  refine lv_dup hx hb dX9_init_26 rfl ?_
  refine g_initl 1 9 hcl (il_8 G  _) hx hb hml hts hown hK hgK hg hS hl.1 (ci_8 G l  _ _) me_X8_init mi_X8_init nl_RX9_24 rfl rfl rfl ⟨(Nat.le_of_ble_eq_true rfl), (Nat.le_of_ble_eq_true rfl)⟩ (Nat.le_of_ble_eq_true rfl) (Nat.le_of_ble_eq_true rfl) (Nat.le_of_ble_eq_true rfl) dX9_init_27 (fun H locs hg hS hcl => ?_)
  refine g_put [.int 0, .int 0, .ref (z + 0), .ref (z + 1), .int 0] (k := 3) hx hb hts hown hin2 hK hg hS cls_9 (by decide) ni_fRX9_25 rfl rfl rfl rfl (Nat.le_of_ble_eq_true rfl) rfl dX9_init_30 (fun H locs hg hS => ?_)
  refine lv_aload_n hx hb dX9_init_33 rfl (lv_at hl 0 rfl) ?_
  refine lv_iconst hx hb dX9_init_34 (v := 0) (by decide) ?_
  refine g_put [.int 0, .int 0, .ref (z + 0), .ref (z + 1), .int 0] (k := 4) hx hb hts hown hin2 hK hg hS cls_9 (by decide) ni_fRX9_29 rfl rfl rfl rfl (Nat.le_of_ble_eq_true rfl) rfl dX9_init_35 (fun H locs hg hS => ?_)
  have hg : gW G z (some a) (ie_9  z) (ic_9 G  z) H := hg
  exact W.vret hx hb hr (fun t ht _ => ⟨rfl, by rw [ht]; exact hg, hS.F ht⟩) hS.2.2 dX9_init_38 hlk
def ie_10 (b1 : Nat) (b2 : Nat) (b3 : Nat) (z : Nat) : va_E := .inr (10, [.ref b1, .ref b2, .ref b3, .ref (z + 0), .ref (z + 10), .ref (z + 11), .int 0, .int (-2)])
def ic_10 (G : mG) (b1 : Nat) (b2 : Nat) (b3 : Nat) (z : Nat) : List va_E := (((([] : List va_E) ++ (ie_8  (z + 1) :: ic_8 G  (z + 1))) ++ [(.inl (G.2.1 .int, 24, .inl fun _ => 0) : va_E)]) ++ [(.inl (G.2.1 .int, 24, .inl fun _ => 0) : va_E)])
theorem il_10 (G : mG) (b1 : Nat) (b2 : Nat) (b3 : Nat) (z : Nat) : (ic_10 G b1 b2 b3 z).length = 12 := by
  unfold ic_10
  simp only [List.length_append, List.length_set, List.length_cons, List.length_nil, List.length_replicate, il_8]
set_option maxHeartbeats 400000 in
set_option maxRecDepth 100000 in
theorem ci_10 (G : mG) (l : Launch) (b1 : Nat) (b2 : Nat) (b3 : Nat) (a z : Nat) : gMet G l yX10_init cX10_init 4 { frames := 2, cells := 12, slots := 240, locals := 44 } [.ref b1, .ref b2, .ref b3] a z (.inr (10, gDef 10)) (ie_10 b1 b2 b3 z) (ic_10 G b1 b2 b3 z) := by
  refine gMet.of (by decide +kernel) rfl (Nat.le_of_ble_eq_true rfl) ?_
  intro p e s m args below meth c hx hb hml hown hts hr hlk hin2 hK hgK hg ls hl hS
  have hown : s.vm.findClass RX10 = some m.cls := hown
  have hl : lv_has ls 4 [(0, .ref a), (1, .ref b1), (2, .ref b2), (3, .ref b3)] := hl
  have hg : gW G z (some a) (.inr (10, [.null, .null, .null, .null, .null, .null, .int 0, .int 0])) [] s.heap := hg
  have hcl : ([] : List va_E).length = 0 := rfl
  refine lv_aload_n hx hb dX10_init_0 rfl (lv_at hl 0 rfl) ?_
  refine W.objInit hx hb hown (hts _ ni_mRX10_3) (hts _ ni_oi) (hts _ ni_oc) rfl (by rw [hml]; exact hl.1) rfl dX10_init_1 (Nat.le_of_ble_eq_true rfl) (Nat.le_of_ble_eq_true rfl) ?_
  refine W.eq (g2 := F0 m 4 ls []) rfl ?_
  refine lv_aload_n hx hb dX10_init_4 rfl (lv_at hl 0 rfl) ?_
  refine g_new (c := 8) 0 hcl hx hb hts hown hK hg hS cls_8 ni_cRX10_9 ni_i8 ni_n8 (Nat.le_of_ble_eq_true rfl) (Nat.le_of_ble_eq_true rfl) dX10_init_5 (fun H hg hS => ?_)
  refine lv_dup hx hb dX10_init_8 rfl ?_
  refine g_initl 0 9 hcl (il_8 G  _) hx hb hml hts hown hK hgK hg hS hl.1 (ci_8 G l  _ _) me_X8_init mi_X8_init nl_RX10_11 rfl rfl rfl ⟨(Nat.le_of_ble_eq_true rfl), (Nat.le_of_ble_eq_true rfl)⟩ (Nat.le_of_ble_eq_true rfl) (Nat.le_of_ble_eq_true rfl) (Nat.le_of_ble_eq_true rfl) dX10_init_9 (fun H locs hg hS hcl => ?_)
  refine g_put [.null, .null, .null, .ref (z + 0), .null, .null, .int 0, .int 0] (k := 3) hx hb hts hown hin2 hK hg hS cls_10 (by decide) ni_fRX10_12 rfl rfl rfl rfl (Nat.le_of_ble_eq_true rfl) rfl dX10_init_12 (fun H locs hg hS => ?_)
  refine lv_aload_n hx hb dX10_init_15 rfl (lv_at hl 0 rfl) ?_
  refine lv_bipush hx hb dX10_init_16 (v := 24) (by decide) ?_
  refine g_newa (at_ := .int) (ty := .int) (N := 24) (t0 := 0) (a0 := (24, .inl fun _ => 0)) 10 hcl hx hb hts hK hg hS rfl ni_a_int rfl (fun _ _ q => q) (fun _ => rfl) (by decide) (by decide) (by decide) (Nat.le_of_ble_eq_true rfl) (Nat.le_of_ble_eq_true rfl) dX10_init_18 (fun H hg hS hcl => ?_)
  refine g_put [.null, .null, .null, .ref (z + 0), .ref (z + 10), .null, .int 0, .int 0] (k := 4) hx hb hts hown hin2 hK hg hS cls_10 (by decide) ni_fRX10_18 rfl rfl rfl rfl (Nat.le_of_ble_eq_true rfl) rfl dX10_init_20 (fun H locs hg hS => ?_)
  refine lv_aload_n hx hb dX10_init_23 rfl (lv_at hl 0 rfl) ?_
  refine lv_bipush hx hb dX10_init_24 (v := 24) (by decide) ?_
  refine g_newa (at_ := .int) (ty := .int) (N := 24) (t0 := 0) (a0 := (24, .inl fun _ => 0)) 11 hcl hx hb hts hK hg hS rfl ni_a_int rfl (fun _ _ q => q) (fun _ => rfl) (by decide) (by decide) (by decide) (Nat.le_of_ble_eq_true rfl) (Nat.le_of_ble_eq_true rfl) dX10_init_26 (fun H hg hS hcl => ?_)
  refine g_put [.null, .null, .null, .ref (z + 0), .ref (z + 10), .ref (z + 11), .int 0, .int 0] (k := 5) hx hb hts hown hin2 hK hg hS cls_10 (by decide) ni_fRX10_22 rfl rfl rfl rfl (Nat.le_of_ble_eq_true rfl) rfl dX10_init_28 (fun H locs hg hS => ?_)
  refine lv_aload_n hx hb dX10_init_31 rfl (lv_at hl 0 rfl) ?_
  refine lv_iconst hx hb dX10_init_32 (v := 0) (by decide) ?_
  refine g_put [.null, .null, .null, .ref (z + 0), .ref (z + 10), .ref (z + 11), .int 0, .int 0] (k := 6) hx hb hts hown hin2 hK hg hS cls_10 (by decide) ni_fRX10_25 rfl rfl rfl rfl (Nat.le_of_ble_eq_true rfl) rfl dX10_init_33 (fun H locs hg hS => ?_)
  refine lv_aload_n hx hb dX10_init_36 rfl (lv_at hl 0 rfl) ?_
  refine lv_bipush hx hb dX10_init_37 (v := (-2)) (by decide) ?_
  refine g_put [.null, .null, .null, .ref (z + 0), .ref (z + 10), .ref (z + 11), .int 0, .int (-2)] (k := 7) hx hb hts hown hin2 hK hg hS cls_10 (by decide) ni_fRX10_29 rfl rfl rfl rfl (Nat.le_of_ble_eq_true rfl) rfl dX10_init_39 (fun H locs hg hS => ?_)
  refine lv_aload_n hx hb dX10_init_42 rfl (lv_at hl 0 rfl) ?_
  refine lv_aload_n hx hb dX10_init_43 rfl (lv_at hl 1 rfl) ?_
  refine g_put [.ref b1, .null, .null, .ref (z + 0), .ref (z + 10), .ref (z + 11), .int 0, .int (-2)] (k := 0) hx hb hts hown hin2 hK hg hS cls_10 (by decide) ni_fRX10_32 rfl rfl rfl rfl (Nat.le_of_ble_eq_true rfl) rfl dX10_init_44 (fun H locs hg hS => ?_)
  refine lv_aload_n hx hb dX10_init_47 rfl (lv_at hl 0 rfl) ?_
  refine lv_aload_n hx hb dX10_init_48 rfl (lv_at hl 2 rfl) ?_
  refine g_put [.ref b1, .ref b2, .null, .ref (z + 0), .ref (z + 10), .ref (z + 11), .int 0, .int (-2)] (k := 1) hx hb hts hown hin2 hK hg hS cls_10 (by decide) ni_fRX10_36 rfl rfl rfl rfl (Nat.le_of_ble_eq_true rfl) rfl dX10_init_49 (fun H locs hg hS => ?_)
  refine lv_aload_n hx hb dX10_init_52 rfl (lv_at hl 0 rfl) ?_
  refine lv_aload_n hx hb dX10_init_53 rfl (lv_at hl 3 rfl) ?_
  refine g_put [.ref b1, .ref b2, .ref b3, .ref (z + 0), .ref (z + 10), .ref (z + 11), .int 0, .int (-2)] (k := 2) hx hb hts hown hin2 hK hg hS cls_10 (by decide) ni_fRX10_39 rfl rfl rfl rfl (Nat.le_of_ble_eq_true rfl) rfl dX10_init_54 (fun H locs hg hS => ?_)
  have hg : gW G z (some a) (ie_10 b1 b2 b3 z) (ic_10 G b1 b2 b3 z) H := hg
  exact W.vret hx hb hr (fun t ht _ => ⟨rfl, by rw [ht]; exact hg, hS.F ht⟩) hS.2.2 dX10_init_57 hlk
