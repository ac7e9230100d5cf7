/-! ===== the law's own at ===== -/
def f_L_at (x1 x2 : Int32) (h : mH) : Option (Int32 × mH) := (f_at x1 x2 h).bind fun b => match b with
  | (.inl v, h1) => some (0, uJ h1 98 0 0 v)
  | (.inr false, h1) => some (1, h1)
  | (.inr true, h1) => some (2, h1)
def rmL : Room := { frames := 7, cells := 1, slots := 6, locals := 130 }
theorem lw_cw : Cond.codeWith yL_at cL_at 5 (some .int) [(0, 9, 12, 13), (0, 9, 16, 15)] ∈ mTb := by decide +kernel
theorem lw_c13 : Cond.classLink RL 13 "java/lang/IllegalArgumentException" ∈ mTb := by decide +kernel
theorem lw_c15 : Cond.classLink RL 15 "java/lang/IllegalStateException" ∈ mTb := by decide +kernel
theorem lw_m7 : Cond.methodLink RL 7 yX11_at ∈ mTb := by decide +kernel
theorem lw_i7 : Cond.instanceMethod yX11_at ∈ mTb := by decide +kernel
theorem lw_s7 : Cond.selects yX11_at.cls yX11_at yX11_at ∈ mTb := by decide +kernel
theorem lw_a7 : mMe yX11_at cX11_at 4 (some .long) 2 := ⟨by decide +kernel, by decide +kernel, by decide +kernel, by decide +kernel, by decide +kernel⟩
set_option maxHeartbeats 1000000 in
theorem cf_L_at (G : mG) (l : Launch) (hl0 : l.stackTraces = false) (x1 x2 : Int32) (h : mH) (b : Int32 × mH) (hb : f_L_at x1 x2 h = some b) : Met l yL_at (.codeWith yL_at cL_at 5 (some .int) [(0, 9, 12, 13), (0, 9, 16, 15)] :: mTb) rmL (va_Pc (([.inr (.inr (11, 0)), .inl x1, .inl x2, .inr (.inr (98, 0))] : List mV).map (mC G)) (mPreT G h)) (mQ G (eI b)) 1 6 (mA G) := by
  unfold f_L_at at hb
  obtain ⟨b0, hb0, hb⟩ := Option.bind_eq_some_iff.mp hb
  refine va_MetW (cc := cL_at) (maxL := 5) (ret := some .int) (by decide +kernel) rfl ?_
  intro p e s m args below meth c s₁ B hml hv
  obtain ⟨rfl, hKT, hw, hT⟩ := hv
  have hx := B.exec
  have hbb := B.bytes
  have hr := B.returns
  have hlk := B.notSynchronized
  have hts0 := atoms_spec (ws := Cond.codeWith yL_at cL_at 5 (some .int) [(0, 9, 12, 13), (0, 9, 16, 15)] :: mTb) B.pre
  have hts : ∀ w ∈ mTb, w.before _ s = true := fun w hw => hts0 w (List.mem_cons_of_mem _ hw)
  have hown : s.vm.findClass RL = some m.cls := findClass_of_methodNamed B.named
  have htab := vx_table (x := yL_at) B (hts0 _ List.mem_cons_self)
  have hl := lv_entry (([.inr (.inr (11, 0)), .inl x1, .inl x2, .inr (.inr (98, 0))] : List mV).map (mC G)) (n := 5) (Nat.le_of_ble_eq_true rfl)
  rw [lg_entry_eq]
  generalize (lg_sl (([.inr (.inr (11, 0)), .inl x1, .inl x2, .inr (.inr (98, 0))] : List mV).map (mC G)) ++ List.replicate (5 - (lg_sl (([.inr (.inr (11, 0)), .inl x1, .inl x2, .inr (.inr (98, 0))] : List mV).map (mC G))).length) Slot.unset).toArray = ls at hl ⊢
  have hl : lv_has ls 5 [(0, .ref (G.2.2.1 11 0)), (1, .int x1), (2, .int x2), (3, .ref (G.2.2.1 98 0))] := hl
  have hS : va_S (mA G) s.heap s.heap [] := va_S.rf
  have hat := hw.1 11 0 (by decide)
  rw [mE_obj (c := 11) rfl] at hat
  refine lv_aload_n hx hbb dL_at_0 rfl (lv_at hl 3 rfl) ?_
  refine lv_iconst hx hbb dL_at_1 (v := 0) (by decide) ?_
  refine lv_aload_n hx hbb dL_at_2 rfl (lv_at hl 0 rfl) ?_
  refine lv_iload_n hx hbb dL_at_3 rfl (lv_at hl 1 rfl) ?_
  refine lv_iload_n hx hbb dL_at_4 rfl (lv_at hl 2 rfl) ?_
  have hrun := vx_runV (p := p) (e := e) (m := m) (below := below) (meth := meth) (c := c) (H := s.heap) (locs := []) (cells := 0) (slots := 0) (R := rmL) (g := F0 m 5 ls [.int x2, .int x1, .ref (G.2.2.1 11 0), .int 0, .ref (G.2.2.1 98 0)]) (b := G.2.2.1 11 0) (As := [.int x1, .int x2]) (rest := [.int 0, .ref (G.2.2.1 98 0)]) (index := 7) (n := 2) (C := yX11_at.cls)
    ⟨hx, hbb, hml, hown, hts⟩ (cf_at G l hl0 x1 x2 h b0 hb0) ⟨callB_of 2 hts (mGood lw_a7.1) rfl rfl rfl (hts _ lw_a7.2.1) (hts _ lw_m7) lw_a7.2.2 ⟨by decide, by decide⟩, hts _ lw_i7, hts _ lw_s7⟩
    ⟨mPreT_blind G h _, va_recv hKT.1 (va_P_one hat) cls_11.1 (q0 := 0) rfl, fun U hU hW => ⟨rfl, hKT.warm hW, by rw [hU]; exact hw, hT.warm hW (fun a _ _ => by rw [hU])⟩⟩ rfl rfl hl.1 rfl (lv_room (Nat.le_of_ble_eq_true rfl)) dL_at_5 ⟨by decide, by decide⟩
  refine vx_calll hrun hS (fun q _ z => z) (fun q z => z) (fun q _ z => z) (fun E ce q9 u t H1 locs1 ht hvm hp hB z1 o1 hS hc1 hc2 hc3 => ?_) (fun r u t H1 locs1 ht hvm hp hB z1 o1 hS => ?_)
  · obtain ⟨hw1, hE⟩ := hB
    subst hp
    rw [ht] at hw1
    obtain ⟨v0, h1⟩ := b0
    rcases hE with ⟨e1, rfl⟩ | ⟨e1, rfl⟩
    · match v0, hb, e1, hw1 with
      | .inr false, hb, _, hw1 =>
        cases hb
        refine vx_catch (own := RL) (name := "java/lang/IllegalArgumentException") (E := "java/lang/IllegalArgumentException") hown [] ⟨0, 9, 12, 13⟩ [⟨0, 9, 16, 15⟩] (by rw [htab]; rfl) (fun z hz => by cases hz) (by decide) (by decide) (hts _ lw_c13) (va_Nw.use rfl hT.2.2.2.2.1) hc1 hc2 hc3 ?_
        refine lv_astore hx hbb dL_at_12 (i := 4) hl (by decide) rfl (fun ls hl => ?_)
        refine lv_iconst hx hbb dL_at_14 (v := 1) (by decide) ?_
        exact W.iret hx hbb hr (fun t ht _ => ⟨rfl, fun v hv => (by cases hv; exact trivial), by rw [ht]; exact hw1, hS.F ht⟩) hS.2.2 dL_at_15 hlk
      | .inr true, _, e1, _ => exact absurd (Option.some.inj e1) (by decide)
      | .inl v, _, e1, _ => exact absurd (Option.some.inj e1) (by intro z; cases z)
    · match v0, hb, e1, hw1 with
      | .inr true, hb, _, hw1 =>
        cases hb
        refine vx_catch (own := RL) (name := "java/lang/IllegalStateException") (E := "java/lang/IllegalStateException") hown [⟨0, 9, 12, 13⟩] ⟨0, 9, 16, 15⟩ [] (by rw [htab]; rfl) (fun z hz => by
          rcases List.mem_cons.mp hz with rfl | hz
          · exact Or.inr ⟨by decide, "java/lang/IllegalArgumentException", hts _ lw_c13, hT.2.2.2.2.2.2.1⟩
          · cases hz) (by decide) (by decide) (hts _ lw_c15) (va_Nw.use rfl hT.2.2.2.2.2.1) hc1 hc2 hc3 ?_
        refine lv_astore hx hbb dL_at_16 (i := 4) hl (by decide) rfl (fun ls hl => ?_)
        refine lv_iconst hx hbb dL_at_18 (v := 2) (by decide) ?_
        exact W.iret hx hbb hr (fun t ht _ => ⟨rfl, fun v hv => (by cases hv; exact trivial), by rw [ht]; exact hw1, hS.F ht⟩) hS.2.2 dL_at_19 hlk
      | .inr false, _, e1, _ => exact absurd (Option.some.inj e1) (by decide)
      | .inl v, _, e1, _ => exact absurd (Option.some.inj e1) (by intro z; cases z)
  · obtain ⟨e1, rfl⟩ := hp
    obtain ⟨v0, h1⟩ := b0
    have hw1 : mW G h1 H1 := by rw [← ht]; exact hB
    match v0, hb, e1 with
    | .inr false, _, e1 => exact absurd (Option.some.inj e1) (by intro z; cases z)
    | .inr true, _, e1 => exact absurd (Option.some.inj e1) (by intro z; cases z)
    | .inl v, hb, e1 =>
      cases hb
      have e2 : v = r := by
        have z := Option.some.inj e1
        injection z with z
        injection z
      subst e2
      have hao := hw1.1 98 0 (by decide)
      rw [mE_arr (n := 1) (ty := .long) rfl, mAr_long] at hao
      refine W.last hx hbb hao ((hKT.1.2 1 _ rfl).1 1 (fun j => .long (h1.2 98 0 j))) (fun q => by cases q) (by show ¬ ((0 : Int32) < 0 ∨ (arrV _ _ _).slots.size ≤ _); rw [arrV_size]; show ¬ ((0 : Int32) < 0 ∨ 1 ≤ (0 : Int32).toNatClampNeg); decide) rfl rfl dL_at_8 fun H2 e3 z2 oq => ?_
      have hw2 : mW G (uJ h1 98 0 0 v) H2 := by
        refine hw1.upd (t := 98) (i := 0) (by decide) ?_ oq (fun t' i' e => mE_ne rfl (uJ_ne e))
        rw [mE_arr (n := 1) (ty := .long) rfl, mAr_long]
        show H2[_]? = some (vp_cell _ _)
        rw [e3]
        show some ((vp_cell _ _).setSlot _ _) = _
        rw [vp_cell_l, vp_cell_l, arrV_store]
        refine congrArg some (arrV_cong fun q hq => ?_)
        have hq0 : q = 0 := by omega
        subst hq0
        rfl
      refine W.eq (g2 := F0 m 9 ls []) rfl ?_
      refine lv_goto (tgt := 20) hx hbb dL_at_9 (by decide) ?_
      refine lv_iconst hx hbb dL_at_20 (v := 0) (by decide) ?_
      have hS2 := hS.put (k := (0 : Int32).toNatClampNeg) z2 oq (hw1.2.2 98 0 (by decide))
      exact W.iret hx hbb hr (fun t ht _ => ⟨rfl, fun v hv => (by cases hv; exact trivial), by rw [ht]; exact hw2, hS2.F ht⟩) hS2.2.2 dL_at_21 hlk
