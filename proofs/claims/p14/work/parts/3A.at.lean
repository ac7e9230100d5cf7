/-! ===== DriverBook.at, which throws, and the law's own at, which catches ===== -/
theorem dX11_at_0 : decode cX11_at 0 = .ok (.iload_n 1, 1) := by decide +kernel
theorem dX11_at_1 : decode cX11_at 1 = .ok (.invokestatic 253, 3) := by decide +kernel
theorem dX11_at_4 : decode cX11_at 4 = .ok (.ifCond .ne 14, 3) := by decide +kernel
theorem dX11_at_7 : decode cX11_at 7 = .ok (.new 300, 3) := by decide +kernel
theorem dX11_at_10 : decode cX11_at 10 = .ok (.dup, 1) := by decide +kernel
theorem dX11_at_11 : decode cX11_at 11 = .ok (.ldc_w 302, 3) := by decide +kernel
theorem dX11_at_14 : decode cX11_at 14 = .ok (.invokespecial 304, 3) := by decide +kernel
theorem dX11_at_17 : decode cX11_at 17 = .ok (.athrow, 1) := by decide +kernel
theorem dX11_at_18 : decode cX11_at 18 = .ok (.aload_n 0, 1) := by decide +kernel
theorem dX11_at_19 : decode cX11_at 19 = .ok (.getfield 52, 3) := by decide +kernel
theorem dX11_at_22 : decode cX11_at 22 = .ok (.iload_n 1, 1) := by decide +kernel
theorem dX11_at_23 : decode cX11_at 23 = .ok (.aaload, 1) := by decide +kernel
theorem dX11_at_24 : decode cX11_at 24 = .ok (.astore_n 3, 1) := by decide +kernel
theorem dX11_at_25 : decode cX11_at 25 = .ok (.aload_n 3, 1) := by decide +kernel
theorem dX11_at_26 : decode cX11_at 26 = .ok (.invokevirtual 292, 3) := by decide +kernel
theorem dX11_at_29 : decode cX11_at 29 = .ok (.ifCond .eq 11, 3) := by decide +kernel
theorem dX11_at_32 : decode cX11_at 32 = .ok (.aload_n 3, 1) := by decide +kernel
theorem dX11_at_33 : decode cX11_at 33 = .ok (.iload_n 2, 1) := by decide +kernel
theorem dX11_at_34 : decode cX11_at 34 = .ok (.invokevirtual 285, 3) := by decide +kernel
theorem dX11_at_37 : decode cX11_at 37 = .ok (.ifCond .ne 14, 3) := by decide +kernel
theorem dX11_at_40 : decode cX11_at 40 = .ok (.new 283, 3) := by decide +kernel
theorem dX11_at_43 : decode cX11_at 43 = .ok (.dup, 1) := by decide +kernel
theorem dX11_at_44 : decode cX11_at 44 = .ok (.ldc_w 307, 3) := by decide +kernel
theorem dX11_at_47 : decode cX11_at 47 = .ok (.invokespecial 309, 3) := by decide +kernel
theorem dX11_at_50 : decode cX11_at 50 = .ok (.athrow, 1) := by decide +kernel
theorem dX11_at_51 : decode cX11_at 51 = .ok (.aload_n 3, 1) := by decide +kernel
theorem dX11_at_52 : decode cX11_at 52 = .ok (.getfield 288, 3) := by decide +kernel
theorem dX11_at_55 : decode cX11_at 55 = .ok (.iload_n 2, 1) := by decide +kernel
theorem dX11_at_56 : decode cX11_at 56 = .ok (.laload, 1) := by decide +kernel
theorem dX11_at_57 : decode cX11_at 57 = .ok (.lreturn, 1) := by decide +kernel
theorem dL_at_0 : decode cL_at 0 = .ok (.aload_n 3, 1) := by decide +kernel
theorem dL_at_1 : decode cL_at 1 = .ok (.iconst 0, 1) := by decide +kernel
theorem dL_at_2 : decode cL_at 2 = .ok (.aload_n 0, 1) := by decide +kernel
theorem dL_at_3 : decode cL_at 3 = .ok (.iload_n 1, 1) := by decide +kernel
theorem dL_at_4 : decode cL_at 4 = .ok (.iload_n 2, 1) := by decide +kernel
theorem dL_at_5 : decode cL_at 5 = .ok (.invokevirtual 7, 3) := by decide +kernel
theorem dL_at_8 : decode cL_at 8 = .ok (.lastore, 1) := by decide +kernel
theorem dL_at_9 : decode cL_at 9 = .ok (.goto 11, 3) := by decide +kernel
theorem dL_at_12 : decode cL_at 12 = .ok (.astore 4, 2) := by decide +kernel
theorem dL_at_14 : decode cL_at 14 = .ok (.iconst 1, 1) := by decide +kernel
theorem dL_at_15 : decode cL_at 15 = .ok (.ireturn, 1) := by decide +kernel
theorem dL_at_16 : decode cL_at 16 = .ok (.astore 4, 2) := by decide +kernel
theorem dL_at_18 : decode cL_at 18 = .ok (.iconst 2, 1) := by decide +kernel
theorem dL_at_19 : decode cL_at 19 = .ok (.ireturn, 1) := by decide +kernel
theorem dL_at_20 : decode cL_at 20 = .ok (.iconst 0, 1) := by decide +kernel
theorem dL_at_21 : decode cL_at 21 = .ok (.ireturn, 1) := by decide +kernel
def nIAE : String := "java/lang/IllegalArgumentException"
def nISE : String := "java/lang/IllegalStateException"
def mXw : List Cond := [.castable "java/lang/IllegalArgumentException" "java/lang/IllegalArgumentException", .castable "java/lang/IllegalStateException" "java/lang/IllegalStateException"]
def mXd : List MethodName := [Bundle.initS "java/lang/RuntimeException", Bundle.initS "java/lang/Exception", Bundle.initS Bundle.tN]
/-- what a throw asks of the state -/
def mTh (G : mG) (U : State) : Prop := vx_Zq Bundle.tN "UNASSIGNED_STACK" Bundle.steD (mA G) U U.heap ∧ vx_Zq Bundle.tN "SUPPRESSED_SENTINEL" Bundle.listD (mA G) U U.heap ∧ (∃ sa, vk_R RX11 302 "no such tape" sa U) ∧ (∃ sa, vk_R RX11 307 "no row with such a place" sa U) ∧ va_Nw (.castable "java/lang/IllegalArgumentException" "java/lang/IllegalArgumentException") U ∧ va_Nw (.castable "java/lang/IllegalStateException" "java/lang/IllegalStateException") U ∧ va_Nc "java/lang/IllegalStateException" "java/lang/IllegalArgumentException" U ∧ (∀ x ∈ mXd, va_Nw (.declares x) U) ∧ ∃ sa, vk_R RX9 48 "laws were broken" sa U
theorem mTh.warm {G : mG} {s U : State} (hW : s.WarmedH U.vm) (hq : ∀ a : Nat, a < s.heap.size → ¬ mA G a → U.heap[a]? = s.heap[a]?) (h : mTh G s) : mTh G U := by
  obtain ⟨h1, h2, ⟨sa, h3⟩, ⟨sb, h4⟩, h5, h6, h7, h8, ⟨sc, h9⟩⟩ := h
  exact ⟨(h1.moved hW.alike).kept hq, (h2.moved hW.alike).kept hq, ⟨sa, h3.warm hW⟩, ⟨sb, h4.warm hW⟩, va_Nw.warmC hW h5, va_Nw.warmC hW h6, h7.moved hW.alike, fun x hx => va_Nw.warmD hW (h8 x hx), ⟨sc, h9.warm hW⟩⟩
theorem mTh.same {G : mG} {u U : State} (hv : u.vm = U.vm) (hh : U.heap = u.heap) (h : mTh G u) : mTh G U := by
  have hW : u.WarmedH U.vm := by rw [← hv]; exact State.WarmedH.refl u
  exact h.warm hW (fun a _ _ => by rw [hh])
def eAt (q : (Int64 ⊕ Bool) × mH) : mRes := (match q.1 with | .inl v => some (.inr (.inl v)) | .inr false => some (.inl 1) | .inr true => some (.inl 2), q.2)
def pAt (r : mRes) : Int64 → mH → Prop := fun v u => r.1 = some (.inr (.inl v)) ∧ u = r.2
def bAt (G : mG) (r : mRes) : String → mH → State → Prop := fun E u t => mW G u t.heap ∧ ((r.1 = some (.inl 1) ∧ E = "java/lang/IllegalArgumentException") ∨ (r.1 = some (.inl 2) ∧ E = "java/lang/IllegalStateException"))
def QAt (G : mG) (r : mRes) : Array Value → State → Outcome → State → Prop := va_Ql (pAt r) (fun u t => mW G u t.heap) (mA G)
def XAt (G : mG) (r : mRes) : String → State → State → Prop := vx_X (fun u => u = r.2) (bAt G r) (mA G)
def atX (G : mG) (X : mX) : Prop := match X with
  | (_, l, _, _, s, _, args, below, _, c, nc, ns, QQ) => l.stackTraces = false ∧ mTh G s ∧ (nc = 0 ∧ ns = 0) ∧ (∀ x ∈ c.exceptionTable.toList, False) ∧ QQ = fun r => vx_MQ below (QAt G r) (XAt G r) args s 1 6 (mA G)
def rmAt : Room := { frames := 6, cells := 1, slots := 6, locals := 100 }
theorem mW.grown {G : mG} {h : mH} {H H1 : Heap} (hw : mW G h H) (o : ∀ q : Nat, q < H.size → H1[q]? = H[q]?) : mW G h H1 := by
  refine ⟨fun t i hi => ?_, hw.2.1, hw.2.2⟩
  have q := hw.1 t i hi
  exact q.kept (o _ q.lt)
theorem xw1 : ∀ w ∈ (vx_atS RX11 304 "java/lang/IllegalArgumentException" ["java/lang/RuntimeException", "java/lang/Exception"]).filter goodWord, w ∈ lw_tbl := by decide +kernel
theorem xw2 : ∀ w ∈ (vx_atS RX11 309 "java/lang/IllegalStateException" ["java/lang/RuntimeException", "java/lang/Exception"]).filter goodWord, w ∈ lw_tbl := by decide +kernel
theorem xn1 : ∀ w ∈ (vx_atS RX11 304 "java/lang/IllegalArgumentException" ["java/lang/RuntimeException", "java/lang/Exception"]).filter (fun w => !goodWord w), w ∈ [Cond.castable "java/lang/IllegalArgumentException" "java/lang/IllegalArgumentException", .declares (Bundle.initS "java/lang/RuntimeException"), .declares (Bundle.initS "java/lang/Exception"), .declares (Bundle.initS Bundle.tN)] := by decide +kernel
theorem xn2 : ∀ w ∈ (vx_atS RX11 309 "java/lang/IllegalStateException" ["java/lang/RuntimeException", "java/lang/Exception"]).filter (fun w => !goodWord w), w ∈ [Cond.castable "java/lang/IllegalStateException" "java/lang/IllegalStateException", .declares (Bundle.initS "java/lang/RuntimeException"), .declares (Bundle.initS "java/lang/Exception"), .declares (Bundle.initS Bundle.tN)] := by decide +kernel
theorem xg1 : ∀ w ∈ Cond.classLink RX11 300 "java/lang/IllegalArgumentException" :: Cond.initialized "java/lang/IllegalArgumentException" :: vx_atS RX11 304 "java/lang/IllegalArgumentException" ["java/lang/RuntimeException", "java/lang/Exception"], vx_ot w = true := by decide +kernel
theorem xg2 : ∀ w ∈ Cond.classLink RX11 283 "java/lang/IllegalStateException" :: Cond.initialized "java/lang/IllegalStateException" :: vx_atS RX11 309 "java/lang/IllegalStateException" ["java/lang/RuntimeException", "java/lang/Exception"], vx_ot w = true := by decide +kernel
theorem xl1 : Cond.classLink RX11 300 "java/lang/IllegalArgumentException" ∈ mTb := by decide +kernel
theorem xl2 : Cond.initialized "java/lang/IllegalArgumentException" ∈ mTb := by decide +kernel
theorem xl3 : Cond.classLink RX11 283 "java/lang/IllegalStateException" ∈ mTb := by decide +kernel
theorem xl4 : Cond.initialized "java/lang/IllegalStateException" ∈ mTb := by decide +kernel
def f_at (x1 x2 : Int32) (h : mH) : Option ((Int64 ⊕ Bool) × mH) :=
  (f_X11_isTape x1 h).bind fun r1 =>
  if r1.1 = 0 then some (.inr false, r1.2)
  else
    if mIn x1 6 = true then
      (f_X9_holdsRow x1.toNatClampNeg r1.2).bind fun r2 =>
      if r2.1 = 0 then some (.inr true, r2.2)
      else
        (f_X9_hasPlace x1.toNatClampNeg x2 r2.2).bind fun r3 =>
        if r3.1 = 0 then some (.inr true, r3.2)
        else
          if mIn x2 64 = true then some (.inl (r3.2.2 42 x1.toNatClampNeg x2.toNatClampNeg), r3.2) else none
    else none
theorem s_thr1 {G : mG} {X : mX} {L : List (Nat × mV)} {h : mH} (hX : atX G X) : Sim G X cX11_at 4 RX11 (some .long) rmAt eAt (some (.inr false, h)) 7 L [] h := by
  intro a ha
  cases ha
  obtain ⟨p, l, e, R, s, m, args, below, meth, c, nc, ns, QQ⟩ := X
  intro F H locs ls hw hS hl hL hst
  obtain ⟨hx, hb, hml, hown, hts, hr, hlk, hK, rfl, hnc, hQQ⟩ := id F
  obtain ⟨hl0, hT, ⟨rfl, rfl⟩, hex, rfl⟩ := hX
  obtain ⟨t1, t2, ⟨sa, t3⟩, t4, t5, t6, t7, t8, t9⟩ := hT
  refine vx_throwSW (A := mA G) hx hb hl0 hown (by decide +kernel) (by decide +kernel) (hts _ xl1) (hts _ xl2) t3
    (vx_hat (fun w hw => hts w (List.mem_filter.mpr ⟨xw1 w hw, (List.mem_filter.mp hw).2⟩)) xn1 (vx_c (va_Nw.use rfl t5) (vx_c (va_Nw.use rfl (t8 _ (by simp [mXd]))) (vx_c (va_Nw.use rfl (t8 _ (by simp [mXd]))) (vx_c (va_Nw.use rfl (t8 _ (by simp [mXd]))) vx_n))))) xg1 t1 t2 hS (hl.1.trans hml.symm) dX11_at_7 dX11_at_10 dX11_at_11 dX11_at_14 dX11_at_17 (fun x hx => (hex x hx).elim) (by decide) (Nat.le_of_ble_eq_true rfl) (by decide) (by decide) hlk (fun t _ z1 o1 => ⟨h, rfl, ⟨hw.grown o1, Or.inl ⟨rfl, rfl⟩⟩, ⟨Nat.le_trans hS.1 z1, fun q h1 h2 => (o1 q (Nat.lt_of_lt_of_le h1 hS.1)).trans (hS.2.1 q h1 h2)⟩⟩) hS.2.2 (by decide) (by decide)
theorem s_thr2 {G : mG} {X : mX} {L : List (Nat × mV)} {h : mH} (hX : atX G X) : Sim G X cX11_at 4 RX11 (some .long) rmAt eAt (some (.inr true, h)) 40 L [] h := by
  intro a ha
  cases ha
  obtain ⟨p, l, e, R, s, m, args, below, meth, c, nc, ns, QQ⟩ := X
  intro F H locs ls hw hS hl hL hst
  obtain ⟨hx, hb, hml, hown, hts, hr, hlk, hK, rfl, hnc, hQQ⟩ := id F
  obtain ⟨hl0, hT, ⟨rfl, rfl⟩, hex, rfl⟩ := hX
  obtain ⟨t1, t2, t3, ⟨sa, t4⟩, t5, t6, t7, t8, t9⟩ := hT
  refine vx_throwSW (A := mA G) hx hb hl0 hown (by decide +kernel) (by decide +kernel) (hts _ xl3) (hts _ xl4) t4
    (vx_hat (fun w hw => hts w (List.mem_filter.mpr ⟨xw2 w hw, (List.mem_filter.mp hw).2⟩)) xn2 (vx_c (va_Nw.use rfl t6) (vx_c (va_Nw.use rfl (t8 _ (by simp [mXd]))) (vx_c (va_Nw.use rfl (t8 _ (by simp [mXd]))) (vx_c (va_Nw.use rfl (t8 _ (by simp [mXd]))) vx_n))))) xg2 t1 t2 hS (hl.1.trans hml.symm) dX11_at_40 dX11_at_43 dX11_at_44 dX11_at_47 dX11_at_50 (fun x hx => (hex x hx).elim) (by decide) (Nat.le_of_ble_eq_true rfl) (by decide) (by decide) hlk (fun t _ z1 o1 => ⟨h, rfl, ⟨hw.grown o1, Or.inr ⟨rfl, rfl⟩⟩, ⟨Nat.le_trans hS.1 z1, fun q h1 h2 => (o1 q (Nat.lt_of_lt_of_le h1 hS.1)).trans (hS.2.1 q h1 h2)⟩⟩) hS.2.2 (by decide) (by decide)
theorem s_atret {G : mG} {X : mX} {L : List (Nat × mV)} {h : mH} {v : Int64} (hX : atX G X) : Sim G X cX11_at 4 RX11 (some .long) rmAt eAt (some (.inl v, h)) 57 L [.inr (.inl v)] h := by
  intro a ha
  cases ha
  obtain ⟨p, l, e, R, s, m, args, below, meth, c, nc, ns, QQ⟩ := X
  intro F H locs ls hw hS hl hL hst
  obtain ⟨hx, hb, hml, hown, hts, hr, hlk, hK, rfl, hnc, hQQ⟩ := id F
  obtain ⟨hl0, hT, ⟨rfl, rfl⟩, hex, rfl⟩ := hX
  refine vx_ret (W.widen (k := 1) (n := 6) (by decide) (by decide) ?_)
  exact W.lret hx hb hr (fun t ht _ => ⟨⟨v, h, rfl, ⟨rfl, rfl⟩, by show mW G h t.heap; rw [ht]; exact hw⟩, hS.F ht⟩) hS.2.2 dX11_at_57 hlk
theorem sf_at (G : mG) (X : mX) (x1 x2 : Int32) (h : mH) (hX : atX G X) : Sim G X cX11_at 4 RX11 (some .long) rmAt eAt (f_at x1 x2 h) 0 [(0, .inr (.inr (11, 0))), (1, .inl x1), (2, .inl x2)] [] h := by
  unfold f_at
  refine s_iload1 1 rfl dX11_at_0 ?_
  refine s_siI [.inl x1] (fun l b hb hl => cf_X11_isTape G l x1 h b hb hl) me_X11_isTape si_RX11_253 rfl rfl rfl rfl rfl dX11_at_1 (fun r1 => ?_)
  refine s_if_ne (tgt := 18) dX11_at_4 (by decide) (fun q1 => ?_) (fun q1 => s_thr1 hX)
  refine s_aload0 0 rfl dX11_at_18 ?_
  refine s_gr (gR_RX11_52 0) dX11_at_19 ?_
  refine s_iload1 1 rfl dX11_at_22 ?_
  refine s_chk (fun q2 => ?_)
  refine s_aal (aR_45 0 x1) q2 dX11_at_23 ?_
  refine s_astore3 [(3, .inr (.inr (9, x1.toNatClampNeg))), (0, .inr (.inr (11, 0))), (1, .inl x1), (2, .inl x2)] rfl rfl dX11_at_24 ?_
  refine s_aload3 0 rfl dX11_at_25 ?_
  refine s_viI [] (fun l b hb hl => cf_X9_holdsRow G l x1.toNatClampNeg r1.2 b hb hl) me_X9_holdsRow vi_RX11_292 rfl rfl rfl rfl rfl dX11_at_26 (fun r2 => ?_)
  refine s_if_eq (tgt := 40) dX11_at_29 (by decide) (fun q3 => s_thr2 hX) (fun q3 => ?_)
  refine s_aload3 0 rfl dX11_at_32 ?_
  refine s_iload2 3 rfl dX11_at_33 ?_
  refine s_viI [.inl x2] (fun l b hb hl => cf_X9_hasPlace G l x1.toNatClampNeg x2 r2.2 b hb hl) me_X9_hasPlace vi_RX11_285 rfl rfl rfl rfl rfl dX11_at_34 (fun r3 => ?_)
  refine s_if_ne (tgt := 51) dX11_at_37 (by decide) (fun q4 => ?_) (fun q4 => s_thr2 hX)
  refine s_aload3 0 rfl dX11_at_51 ?_
  refine s_gr (gR_RX11_288 x1.toNatClampNeg) dX11_at_52 ?_
  refine s_iload2 3 rfl dX11_at_55 ?_
  refine s_chk (fun q5 => ?_)
  refine s_lal aT_42 q5 dX11_at_56 ?_
  exact s_atret hX
def mPreT (G : mG) (h : mH) : State → Prop := fun U => mKT G U ∧ mW G h U.heap ∧ mTh G U
theorem mPreT_blind (G : mG) (h : mH) (av : List Value) : FrameBlind (va_Pc av (mPreT G h)) := fun a U g mk q => ⟨q.1, mKT.same (u := U) (U := U.calling g mk a) rfl q.2.1, q.2.2.1, mTh.same (u := U) (U := U.calling g mk a) rfl rfl q.2.2.2⟩
theorem cf_at (G : mG) (l : Launch) (hl0 : l.stackTraces = false) (x1 x2 : Int32) (h : mH) (b : (Int64 ⊕ Bool) × mH) (hb : f_at x1 x2 h = some b) : vx_Met l yX11_at (.code yX11_at cX11_at 4 (some .long) :: mTb) rmAt (va_Pc (([.inr (.inr (11, 0)), .inl x1, .inl x2] : List mV).map (mC G)) (mPreT G h)) (QAt G (eAt b)) (XAt G (eAt b)) 1 6 (mA G) := by
  refine vx_ofW (cc := cX11_at) (maxL := 4) (ret := some .long) (by decide +kernel) rfl ?_
  intro p e s m args below meth c s₁ B hml hex hv
  obtain ⟨rfl, hKT, hw, hT⟩ := hv
  have hts := atoms_spec (ws := Cond.code yX11_at cX11_at 4 (some .long) :: mTb) B.pre
  have hown : s.vm.findClass RX11 = some m.cls := findClass_of_methodNamed B.named
  have hl := lv_entry (([.inr (.inr (11, 0)), .inl x1, .inl x2] : List mV).map (mC G)) (n := 4) (Nat.le_of_ble_eq_true rfl)
  rw [mArg_lv] at hl
  rw [lg_entry_eq]
  exact sf_at G (p, l, e, rmAt, s, m, _, below, meth, c, 0, 0, fun r => vx_MQ below (QAt G r) (XAt G r) _ s 1 6 (mA G)) x1 x2 h ⟨hl0, hT, ⟨rfl, rfl⟩, hex, rfl⟩ b hb ⟨B.exec, B.bytes, hml, hown, fun w hw => hts w (List.mem_cons_of_mem _ hw), B.returns, B.notSynchronized, hKT, rfl, ⟨Nat.zero_le _, Nat.zero_le _⟩, fun z => by cases z⟩ s.heap [] _ hw va_S.rf hl (by
    intro q hq
    simp [mArg] at hq
    rcases hq with rfl | rfl | rfl
    · exact Or.inl (by decide)
    · trivial
    · trivial) (fun v hv => by cases hv)
