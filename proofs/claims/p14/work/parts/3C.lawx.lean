/-! ===== the law: its frame, its script, calls that may throw within ===== -/
def R_law : String := "DriverBookLaw"
def lw_P (b : Addr) (xs : List Int32) (args : Array Value) (s : State) : Prop := args = #[.ref b] ∧ s.IntsAt b xs ∧ xs.length ≤ 3072 ∧ (Jvm.Cond.and given_1 narrow_1).before args s = true
def lw_Q (_ : Array Value) (s : State) (o : Outcome) (t : State) : Prop := o = .returned (some (.int 1)) ∧ Framed s o t [] 601024 7293034
def lw_Z (below : List Frame) (a : Array Value) (s : State) : State → Prop := fun t => ∃ o, t.status = .running ∧ Ended t below o ∧ lw_Q a s o t
/-- the law's own end, with 1 on the stack, nothing written that was there before, its room as the claim has it -/
theorem lw_ret {p : Program} {l : Launch} {e : Env} {s : State} {m : MethodId} {below : List Frame} {meth : Method} {c : Code} {b : Nat} (hx : p.tables.exec = Jvm.exec) (hb : c.code = code) (hr : meth.sig.returnType = ret) (hlocks : meth.locks = false) {pc : Nat} {H : Heap} {ls : Array Slot} (hdg : decode code pc = .ok (.ireturn, 1)) : W p l e room_1 s m #[Value.ref b] below meth c H [] 601024 7293034 (lw_Z below #[Value.ref b] s) (F0 m pc ls [.int 1]) := by
  intro T hT X
  obtain ⟨fs, hret, hrun, hended, hW, hframe⟩ := X.leave (v := some (.int 1)) (hlocks := hlocks) (fun h => by rw [hr] at h; cases h)
  have hmeth' : T.vm.method? m = some meth := X.method'
  refine ⟨T.setFrames fs, ?_, .returned (some (.int 1)), hrun, hended, rfl, ⟨_, rfl⟩, hW, hframe⟩
  jvm_step X.here [X.here.top, hx, hb, hdg, hmeth', hr, ret, narrow_b1]
  (try refine ⟨rfl, ?_⟩); (try refine ⟨rfl, ?_⟩)
  first | (intro acts; rw [hret _ acts rfl rfl rfl]) | rw [hret _ _ rfl rfl rfl]
  exact Steps.refl _
/-- what holds at the law's entry: the machine, the code, the tables' words (any of lw_tbl by 'hts w (by decide +kernel)'), the script of L ints xs at the cell b, what the Statement gives of the start (any of its parts by flat_of_before) -/
def lw_At (p : Program) (s : State) (m : MethodId) (meth : Method) (c : Code) (b L : Nat) (xs : Nat → Int32) : Prop :=
  p.tables.exec = Jvm.exec ∧ c.code = code ∧ meth.sig.returnType = ret ∧ c.maxLocals = 8 ∧ s.vm.findClass R_law = some m.cls ∧ (∀ w ∈ lw_tbl, w.before #[Value.ref b] s = true) ∧ va_X b L xs s s.heap ∧ b < s.heap.size ∧ meth.locks = false ∧ (Jvm.Cond.and given_1 narrow_1).before #[Value.ref b] s = true
theorem dX11_toss_0 : decode cX11_toss 0 = .ok (.iload_n 1, 1) := by decide +kernel
theorem dX11_toss_1 : decode cX11_toss 1 = .ok (.invokestatic 253, 3) := by decide +kernel
theorem dX11_toss_4 : decode cX11_toss 4 = .ok (.ifCond .ne 5, 3) := by decide +kernel
theorem dX11_toss_7 : decode cX11_toss 7 = .ok (.iconst (-1), 1) := by decide +kernel
theorem dX11_toss_8 : decode cX11_toss 8 = .ok (.ireturn, 1) := by decide +kernel
theorem dX11_toss_9 : decode cX11_toss 9 = .ok (.aload_n 0, 1) := by decide +kernel
theorem dX11_toss_10 : decode cX11_toss 10 = .ok (.getfield 52, 3) := by decide +kernel
theorem dX11_toss_13 : decode cX11_toss 13 = .ok (.iload_n 1, 1) := by decide +kernel
theorem dX11_toss_14 : decode cX11_toss 14 = .ok (.aaload, 1) := by decide +kernel
theorem dX11_toss_15 : decode cX11_toss 15 = .ok (.astore_n 2, 1) := by decide +kernel
theorem dX11_toss_16 : decode cX11_toss 16 = .ok (.aload_n 2, 1) := by decide +kernel
theorem dX11_toss_17 : decode cX11_toss 17 = .ok (.getfield 269, 3) := by decide +kernel
theorem dX11_toss_20 : decode cX11_toss 20 = .ok (.iconst 5, 1) := by decide +kernel
theorem dX11_toss_21 : decode cX11_toss 21 = .ok (.if_icmp .eq 22, 3) := by decide +kernel
theorem dX11_toss_24 : decode cX11_toss 24 = .ok (.aload_n 0, 1) := by decide +kernel
theorem dX11_toss_25 : decode cX11_toss 25 = .ok (.aload_n 2, 1) := by decide +kernel
theorem dX11_toss_26 : decode cX11_toss 26 = .ok (.getfield 269, 3) := by decide +kernel
theorem dX11_toss_29 : decode cX11_toss 29 = .ok (.ifCond .ne 8, 3) := by decide +kernel
theorem dX11_toss_32 : decode cX11_toss 32 = .ok (.bipush (-11), 2) := by decide +kernel
theorem dX11_toss_34 : decode cX11_toss 34 = .ok (.goto 5, 3) := by decide +kernel
theorem dX11_toss_37 : decode cX11_toss 37 = .ok (.bipush (-12), 2) := by decide +kernel
theorem dX11_toss_39 : decode cX11_toss 39 = .ok (.invokevirtual 256, 3) := by decide +kernel
theorem dX11_toss_42 : decode cX11_toss 42 = .ok (.ireturn, 1) := by decide +kernel
theorem dX11_toss_43 : decode cX11_toss 43 = .ok (.aload_n 2, 1) := by decide +kernel
theorem dX11_toss_44 : decode cX11_toss 44 = .ok (.invokevirtual 280, 3) := by decide +kernel
theorem dX11_toss_47 : decode cX11_toss 47 = .ok (.goto 15, 3) := by decide +kernel
theorem dX11_toss_50 : decode cX11_toss 50 = .ok (.astore_n 3, 1) := by decide +kernel
theorem dX11_toss_51 : decode cX11_toss 51 = .ok (.aload_n 2, 1) := by decide +kernel
theorem dX11_toss_52 : decode cX11_toss 52 = .ok (.getfield 273, 3) := by decide +kernel
theorem dX11_toss_55 : decode cX11_toss 55 = .ok (.getfield 226, 3) := by decide +kernel
theorem dX11_toss_58 : decode cX11_toss 58 = .ok (.invokestatic 192, 3) := by decide +kernel
theorem dX11_toss_61 : decode cX11_toss 61 = .ok (.ireturn, 1) := by decide +kernel
theorem dX11_toss_62 : decode cX11_toss 62 = .ok (.aload_n 0, 1) := by decide +kernel
theorem dX11_toss_63 : decode cX11_toss 63 = .ok (.bipush (-15), 2) := by decide +kernel
theorem dX11_toss_65 : decode cX11_toss 65 = .ok (.invokevirtual 256, 3) := by decide +kernel
theorem dX11_toss_68 : decode cX11_toss 68 = .ok (.ireturn, 1) := by decide +kernel
theorem lw_iL : Cond.initialized yL_at.cls ∈ mTb := by decide +kernel
theorem lw_sL : Cond.static yL_at ∈ mTb := by decide +kernel
theorem lw_nL : ∀ sig, parseMethodDescriptor yL_at.desc = some sig → 4 = sig.parameters.length := fun sig hs => by
  have h2 : (parseMethodDescriptor yL_at.desc).map (fun d => d.parameters.length) = some 4 := by decide +kernel
  rw [hs] at h2
  exact (Option.some.inj h2).symm
theorem lw_cT : Cond.codeWith yX11_toss cX11_toss 4 (some .int) [(43, 47, 50, 283)] ∈ mTb := by decide +kernel
theorem lw_iT : Cond.initialized yX11_toss.cls ∈ mTb := by decide +kernel
theorem lw_mT : Cond.instanceMethod yX11_toss ∈ mTb := by decide +kernel
theorem lw_sT : Cond.selects yX11_toss.cls yX11_toss yX11_toss ∈ mTb := by decide +kernel
theorem lw_nT : ∀ sig, parseMethodDescriptor yX11_toss.desc = some sig → 1 = sig.parameters.length := fun sig hs => by
  have h2 : (parseMethodDescriptor yX11_toss.desc).map (fun d => d.parameters.length) = some 1 := by decide +kernel
  rw [hs] at h2
  exact (Option.some.inj h2).symm
def eL (h : mH) : mRes := (some (.inl 1), h)
def mUp (X : mX) : mX := match X with
  | (p, l, e, R, s, m, args, below, meth, c, nc, ns, QQ) => (p, l, e, R, s, m, args, below, meth, c, nc + 1, ns + 6, QQ)
/-- the law's surroundings: the script's n ints sc at b; k calls more may make a cell each -/
def lwX (G : mG) (X : mX) (b n : Nat) (sc : Nat → Int32) (k : Nat) : Prop := match X with
  | (_, l, _, R, s, _, args, below, _, _, nc, ns, QQ) => l.stackTraces = false ∧ mTh G s ∧ R = room_1 ∧ args = #[.ref b] ∧ va_X b n sc s s.heap ∧ b < s.heap.size ∧ G.2.2.1 99 0 = b ∧ G.2.2.2 = s.heap.size ∧ (nc + k ≤ 601024 ∧ ns + 6 * k ≤ 7293034) ∧ QQ = fun _ => lw_Z below #[.ref b] s
theorem lwX_up {G : mG} {X : mX} {b n k : Nat} {sc : Nat → Int32} (h : lwX G X b n sc (k + 1)) : lwX G (mUp X) b n sc k := by
  obtain ⟨p, l, e, R, s, m, args, below, meth, c, nc, ns, QQ⟩ := X
  obtain ⟨h1, h2, h3, h4, h5, h6, h7, h8, h9, h10⟩ := h
  exact ⟨h1, h2, h3, h4, h5, h6, h7, h8, ⟨by omega, by omega⟩, h10⟩
abbrev lwS (G : mG) (X : mX) (f : Option mH) (pc : Nat) (L : List (Nat × mV)) (h : mH) : Prop := Sim G X cL_law 8 RL (some .boolean) room_1 eL f pc L [] h
def lwL (v : Int32) : List (Nat × mV) := [(4, .inl v), (3, .inr (.inr (98, 0))), (2, .inr (.inr (12, 0))), (1, .inr (.inr (11, 0))), (0, .inr (.inr (99, 0)))]
def lwK (G : mG) (X : mX) (kb : Int32 → mH → Option mH) : Prop := ∀ X', (X' = X ∨ X' = mUp X) → ∀ (v : Int32) (h : mH), lwS G X' (kb v h) 23 [(4, .inl v), (3, .inr (.inr (98, 0))), (2, .inr (.inr (12, 0))), (1, .inr (.inr (11, 0))), (0, .inr (.inr (99, 0)))] h
section LW
variable {α : Type} {G : mG} {X : mX} {em : α → mRes} {f : Option α} {pc : Nat} {L : List (Nat × mV)} {st : List mV} {h : mH} {b n k : Nat} {sc : Nat → Int32}
theorem s_sld {x : Int32} (hX : lwX G X b n sc k) (hin : mIn x n = true) (hd : decode cL_law pc = .ok (.iaload, 1)) (kk : Sim G X cL_law 8 RL (some .boolean) room_1 em f (pc + 1) L (.inl (sc x.toNatClampNeg) :: st) h) : Sim G X cL_law 8 RL (some .boolean) room_1 em f pc L (.inl x :: .inr (.inr (99, 0)) :: st) h := by
  intro a ha
  have kk := kk a ha
  obtain ⟨p, l, e, R, s, m, args, below, meth, c, nc, ns, QQ⟩ := X
  intro F H locs ls hw hS hl hL hst
  obtain ⟨hx, hb, hml, hown, hts, hr, hlk, hK, hrm, hnc, hQQ⟩ := id F
  obtain ⟨h1, h2, h3, h4, h5, h6, h7, h8, h9, h10⟩ := hX
  show W p l e R s m args below meth c H locs nc ns (QQ (em a)) (F0 m pc ls (.int x :: .ref (G.2.2.1 99 0) :: st.map (mC G)))
  rw [h7]
  exact va_sld hx hb h5 h6 (fun z => by have z : G.2.2.2 ≤ b := z; omega) hS (mIn_vp hin) hd (kk F H locs ls hw hS hl hL (fun w hq => by
    rcases List.mem_cons.mp hq with rfl | hq
    · exact trivial
    · exact hst w (List.mem_cons_of_mem _ (List.mem_cons_of_mem _ hq))))
theorem s_slen (hX : lwX G X b n sc k) (hd : decode cL_law pc = .ok (.arraylength, 1)) (kk : Sim G X cL_law 8 RL (some .boolean) room_1 em f (pc + 1) L (.inl (Int32.ofNat n) :: st) h) : Sim G X cL_law 8 RL (some .boolean) room_1 em f pc L (.inr (.inr (99, 0)) :: st) h := by
  intro a ha
  have kk := kk a ha
  obtain ⟨p, l, e, R, s, m, args, below, meth, c, nc, ns, QQ⟩ := X
  intro F H locs ls hw hS hl hL hst
  obtain ⟨hx, hb, hml, hown, hts, hr, hlk, hK, hrm, hnc, hQQ⟩ := id F
  obtain ⟨h1, h2, h3, h4, h5, h6, h7, h8, h9, h10⟩ := hX
  show W p l e R s m args below meth c H locs nc ns (QQ (em a)) (F0 m pc ls (.ref (G.2.2.1 99 0) :: st.map (mC G)))
  rw [h7]
  exact va_slen hx hb h5 h6 (fun z => by have z : G.2.2.2 ≤ b := z; omega) hS hd (kk F H locs ls hw hS hl hL (fun w hq => by
    rcases List.mem_cons.mp hq with rfl | hq
    · exact trivial
    · exact hst w (List.mem_cons_of_mem _ hq)))
theorem s_lawret (hX : lwX G X b n sc k) (hd : decode cL_law pc = .ok (.ireturn, 1)) : Sim G X cL_law 8 RL (some .boolean) room_1 eL (some h) pc L [.inl 1] h := by
  intro a ha
  cases ha
  obtain ⟨p, l, e, R, s, m, args, below, meth, c, nc, ns, QQ⟩ := X
  intro F H locs ls hw hS hl hL hst
  obtain ⟨hx, hb, hml, hown, hts, hr, hlk, hK, hrm, hnc, hQQ⟩ := id F
  obtain ⟨h1, h2, rfl, rfl, h5, h6, h7, h8, h9, rfl⟩ := hX
  refine va_forget (fun q hq => ?_) (W.widen (k := 601024) (n := 7293034) (by omega) (by omega) (lw_ret hx hb hr hlk hd))
  have z : G.2.2.2 ≤ q.base := hS.2.2 q hq
  rw [h8] at z
  exact z
theorem mGoodW {y : MethodName} {cc : ByteArray} {nL : Nat} {rt : Option FieldType} {hh : List (Nat × Nat × Nat × Nat)} (hc : Cond.codeWith y cc nL rt hh ∈ mTb) : GoodIn mTb (.codeWith y cc nL rt hh :: mTb) := fun w hw => by
  have hm : w ∈ mTb := by
    rcases List.mem_cons.mp hw with rfl | hw
    · exact hc
    · exact hw
  exact ⟨hm, good_of_word (List.mem_filter.mp hm).2⟩
theorem mCallU {p : Program} {l : Launch} {e : Env} {R : Room} {s : State} {m : MethodId} {args : Array Value} {below : List Frame} {meth : Method} {c : Code} {H : Heap} {locs : List Loc} {Q : State → Prop} {nc ns : Nat} {r : mRes} {ls : Array Slot} {st0 rest : List Value} {a : Array Value} (hr : va_Run p l e R s m args below meth c H locs nc ns 1 6 (F0 m pc ls st0) rest (mQ G r a) (mA G)) (hS : va_S (mA G) s.heap H locs)
    (kk : ∀ (H1 : Heap) (locs1 : List Loc), (∀ v, r.1 = some v → mLi v) → mW G r.2 H1 → va_S (mA G) s.heap H1 locs1 → W p l e R s m args below meth c H1 locs1 (nc + 1) (ns + 6) Q (F0 m (pc + 3) ls ((r.1.map (mC G)).toList ++ rest))) : W p l e R s m args below meth c H locs nc ns Q (F0 m pc ls st0) := by
  intro T hT X
  obtain ⟨v, st₀, t, T', Lc, h0, X', hL, e1, e2, ⟨hv, hli, hw, hz, hk⟩, st⟩ := hr T hT X
  cases hv
  rw [h0] at hz hk
  obtain ⟨t2, a1, b1⟩ := kk T'.heap (locs ++ Lc) hli (by rw [e1]; exact hw)
    ⟨Nat.le_trans hS.1 (by rw [e1]; exact hz), fun q h1 h2 => by rw [e1, hk q (Nat.lt_of_lt_of_le h1 hS.1) h2]; exact hS.2.1 q h1 h2, fun q hq => by
      rcases List.mem_append.mp hq with h | h
      · exact hS.2.2 q h
      · exact hL q h⟩ T' rfl X'
  exact ⟨t2, st t2 a1, b1⟩
theorem s_lat {kf : Int32 × mH → Option α} {st0 : List mV} {idx : Nat} (x1 x2 : Int32) (hX : lwX G X b n sc (k + 1)) (hlink : Cond.methodLink RL idx yL_at ∈ mTb) (hst0 : .inr (.inr (98, 0)) :: .inl x2 :: .inl x1 :: .inr (.inr (11, 0)) :: st = st0) (hsz : Nat.ble (mSz st) 8 = true) (hd : decode cL_law pc = .ok (.invokestatic idx, 3))
    (kk : ∀ r : Int32 × mH, Sim G (mUp X) cL_law 8 RL (some .boolean) room_1 em (kf r) (pc + 3) L (.inl r.1 :: st) r.2) : Sim G X cL_law 8 RL (some .boolean) room_1 em ((f_L_at x1 x2 h).bind kf) pc L st0 h := by
  intro a ha
  subst hst0
  obtain ⟨r, hr0, ha⟩ := Option.bind_eq_some_iff.mp ha
  have kk := kk r a ha
  obtain ⟨p, l, e, R, s, m, args, below, meth, c, nc, ns, QQ⟩ := X
  intro F H locs ls hw hS hl hL hst
  obtain ⟨hx, hb, hml, hown, hts, hr, hlk, hK, rfl, hnc, hQQ⟩ := id F
  obtain ⟨h1, h2, _, h4, h5, h6, h7, h8, h9, h10⟩ := hX
  have hsz2 : (((st.map (mC G)).map fun v => v.category).sum) ≤ 8 := by
    have e : ((st.map (mC G)).map fun v => v.category).sum = mSz st := by
      simp [mSz, List.map_map, Function.comp_def, mC_cat]
    rw [e]; exact Nat.le_of_ble_eq_true hsz
  have hrun := vx_runSW (p := p) (e := e) (m := m) (args := args) (below := below) (meth := meth) (c := c) (H := H) (locs := locs) (cells := nc) (slots := ns) (R := room_1) (g := F0 m pc ls ((.inr (.inr (98, 0)) :: .inl x2 :: .inl x1 :: .inr (.inr (11, 0)) :: st).map (mC G))) (As := ([.inr (.inr (11, 0)), .inl x1, .inl x2, .inr (.inr (98, 0))] : List mV).map (mC G)) (rest := st.map (mC G)) (index := idx) (n := 4)
    ⟨hx, hb, hml, hown, hts⟩ (cf_L_at G l h1 x1 x2 h r hr0) ⟨⟨rfl, rfl, by decide, by decide, pay_in hts (mGoodW lw_cw), List.mem_cons_self⟩, hts _ lw_cw, hts _ lw_iL, ⟨by decide +kernel, by decide +kernel⟩, lw_nL, hts _ hlink, hts _ lw_sL⟩
    ⟨mPreT_blind G h _, fun U hU hW => ⟨rfl, hK.warm hW, by rw [hU]; exact hw, h2.warm hW (fun a z1 z2 => by rw [hU]; exact hS.2.1 a z1 z2)⟩⟩ rfl rfl hl.1 rfl (lv_room hsz2) hd ⟨by show nc + 1 ≤ 601024; omega, by show ns + 6 ≤ 7293034; omega⟩
  refine mCallU hrun hS (fun H1 locs1 hli hw1 hS1 => ?_)
  exact kk ⟨hx, hb, hml, hown, hts, hr, hlk, hK, rfl, ⟨by show nc + 1 ≤ 601024; omega, by show ns + 6 ≤ 7293034; omega⟩, fun z => by cases z⟩ H1 locs1 ls hw1 hS1 hl hL (fun v hv => by
    rcases List.mem_cons.mp hv with rfl | hv
    · exact trivial
    · exact hst v (by simp [hv]))
end LW
/-! ===== Tape.throwFailure, which throws; toss, which catches ===== -/
theorem dX9_throwFailure_0 : decode cX9_throwFailure 0 = .ok (.aload_n 0, 1) := by decide +kernel
theorem dX9_throwFailure_1 : decode cX9_throwFailure 1 = .ok (.getfield 25, 3) := by decide +kernel
theorem dX9_throwFailure_4 : decode cX9_throwFailure 4 = .ok (.getfield 42, 3) := by decide +kernel
theorem dX9_throwFailure_7 : decode cX9_throwFailure 7 = .ok (.lconst 0, 1) := by decide +kernel
theorem dX9_throwFailure_8 : decode cX9_throwFailure 8 = .ok (.lcmp, 1) := by decide +kernel
theorem dX9_throwFailure_9 : decode cX9_throwFailure 9 = .ok (.ifCond .le 13, 3) := by decide +kernel
theorem dX9_throwFailure_12 : decode cX9_throwFailure 12 = .ok (.new 46, 3) := by decide +kernel
theorem dX9_throwFailure_15 : decode cX9_throwFailure 15 = .ok (.dup, 1) := by decide +kernel
theorem dX9_throwFailure_16 : decode cX9_throwFailure 16 = .ok (.ldc 48, 2) := by decide +kernel
theorem dX9_throwFailure_18 : decode cX9_throwFailure 18 = .ok (.invokespecial 50, 3) := by decide +kernel
theorem dX9_throwFailure_21 : decode cX9_throwFailure 21 = .ok (.athrow, 1) := by decide +kernel
theorem dX9_throwFailure_22 : decode cX9_throwFailure 22 = .ok (.return_, 1) := by decide +kernel
theorem kf_RX9_42 : Cond.fieldLink "DriverBook$Tape" 42 "DriverBook$State" "breakCount" "J" ∈ mTb := by decide +kernel
theorem gJ_RX9_42 : mGetJ RX9 42 8 13 := ⟨8, RX8, TX8, cls_8, rfl, by decide, by decide, rfl, kf_RX9_42⟩
theorem xw3 : ∀ w ∈ (vx_atS RX9 50 "java/lang/IllegalStateException" ["java/lang/RuntimeException", "java/lang/Exception"]).filter goodWord, w ∈ lw_tbl := by decide +kernel
theorem xn3 : ∀ w ∈ (vx_atS RX9 50 "java/lang/IllegalStateException" ["java/lang/RuntimeException", "java/lang/Exception"]).filter (fun w => !goodWord w), w ∈ [Cond.castable "java/lang/IllegalStateException" "java/lang/IllegalStateException", .declares (Bundle.initS "java/lang/RuntimeException"), .declares (Bundle.initS "java/lang/Exception"), .declares (Bundle.initS Bundle.tN)] := by decide +kernel
theorem xg3 : ∀ w ∈ Cond.classLink RX9 46 "java/lang/IllegalStateException" :: Cond.initialized "java/lang/IllegalStateException" :: vx_atS RX9 50 "java/lang/IllegalStateException" ["java/lang/RuntimeException", "java/lang/Exception"], vx_ot w = true := by decide +kernel
theorem xl5 : Cond.classLink RX9 46 "java/lang/IllegalStateException" ∈ mTb := by decide +kernel
def eT (q : Bool × mH) : mRes := (bif q.1 then some (.inl 2) else none, q.2)
def QT (G : mG) (r : mRes) : Array Value → State → Outcome → State → Prop := va_Qv (fun u : mH => r.1 = none ∧ u = r.2) (fun u t => mW G u t.heap) (mA G)
def bT (G : mG) (r : mRes) : String → mH → State → Prop := fun E u t => mW G u t.heap ∧ (r.1 = some (.inl 2) ∧ E = "java/lang/IllegalStateException")
def XT (G : mG) (r : mRes) : String → State → State → Prop := vx_X (fun u => u = r.2) (bT G r) (mA G)
def thX (G : mG) (X : mX) : Prop := match X with
  | (_, l, _, _, s, _, args, below, _, c, nc, ns, QQ) => l.stackTraces = false ∧ mTh G s ∧ (nc = 0 ∧ ns = 0) ∧ (∀ x ∈ c.exceptionTable.toList, False) ∧ QQ = fun r => vx_MQ below (QT G r) (XT G r) args s 1 6 (mA G)
def f_thr (i : Nat) (h : mH) : Option (Bool × mH) := if (lg_cmp (h.2 8 (i + 2) 13) 0) ≤ 0 then some (false, h) else some (true, h)
theorem s_thr3 {G : mG} {X : mX} {L : List (Nat × mV)} {h : mH} (hX : thX G X) : Sim G X cX9_throwFailure 1 RX9 none rmAt eT (some (true, h)) 12 L [] h := by
  intro a ha
  cases ha
  obtain ⟨p, l, e, R, s, m, args, below, meth, c, nc, ns, QQ⟩ := X
  intro F H locs ls hw hS hl hL hst
  obtain ⟨hx, hb, hml, hown, hts, hr, hlk, hK, rfl, hnc, hQQ⟩ := id F
  obtain ⟨hl0, hT, ⟨rfl, rfl⟩, hex, rfl⟩ := hX
  obtain ⟨t1, t2, t3, t4, t5, t6, t7, t8, ⟨sa, t9⟩⟩ := hT
  refine vx_throwS (A := mA G) hx hb hl0 hown (by decide +kernel) (by decide +kernel) (hts _ xl5) (hts _ xl4) t9
    (vx_hat (fun w hw => hts w (List.mem_filter.mpr ⟨xw3 w hw, (List.mem_filter.mp hw).2⟩)) xn3 (vx_c (va_Nw.use rfl t6) (vx_c (va_Nw.use rfl (t8 _ (by simp [mXd]))) (vx_c (va_Nw.use rfl (t8 _ (by simp [mXd]))) (vx_c (va_Nw.use rfl (t8 _ (by simp [mXd]))) vx_n))))) xg3 t1 t2 hS (hl.1.trans hml.symm) dX9_throwFailure_12 dX9_throwFailure_15 dX9_throwFailure_16 dX9_throwFailure_18 dX9_throwFailure_21 (fun x hx => (hex x hx).elim) (by decide) (Nat.le_of_ble_eq_true rfl) (by decide) (by decide) hlk (fun t _ z1 o1 => ⟨h, rfl, ⟨hw.grown o1, ⟨rfl, rfl⟩⟩, ⟨Nat.le_trans hS.1 z1, fun q h1 h2 => (o1 q (Nat.lt_of_lt_of_le h1 hS.1)).trans (hS.2.1 q h1 h2)⟩⟩) hS.2.2 (by decide) (by decide)
theorem s_thret {G : mG} {X : mX} {L : List (Nat × mV)} {h : mH} (hX : thX G X) : Sim G X cX9_throwFailure 1 RX9 none rmAt eT (some (false, h)) 22 L [] h := by
  intro a ha
  cases ha
  obtain ⟨p, l, e, R, s, m, args, below, meth, c, nc, ns, QQ⟩ := X
  intro F H locs ls hw hS hl hL hst
  obtain ⟨hx, hb, hml, hown, hts, hr, hlk, hK, rfl, hnc, hQQ⟩ := id F
  obtain ⟨hl0, hT, ⟨rfl, rfl⟩, hex, rfl⟩ := hX
  refine vx_ret (W.widen (k := 1) (n := 6) (by decide) (by decide) ?_)
  exact W.vret hx hb hr (fun t ht _ => ⟨⟨h, rfl, ⟨rfl, rfl⟩, by show mW G h t.heap; rw [ht]; exact hw⟩, hS.F ht⟩) hS.2.2 dX9_throwFailure_22 hlk
theorem sf_thr (G : mG) (X : mX) (i : Nat) (h : mH) (hX : thX G X) : Sim G X cX9_throwFailure 1 RX9 none rmAt eT (f_thr i h) 0 [(0, .inr (.inr (9, i)))] [] h := by
  unfold f_thr
  refine s_aload0 0 rfl dX9_throwFailure_0 ?_
  refine s_gr (gR_RX9_25 i) dX9_throwFailure_1 ?_
  refine s_gj gJ_RX9_42 dX9_throwFailure_4 ?_
  refine s_lk0 dX9_throwFailure_7 ?_
  refine s_lcmp dX9_throwFailure_8 ?_
  exact s_if_le (tgt := 22) dX9_throwFailure_9 (by decide) (fun q => s_thret hX) (fun q => s_thr3 hX)
theorem cf_thr (G : mG) (l : Launch) (hl0 : l.stackTraces = false) (i : Nat) (hi : i < 6) (h : mH) (b : Bool × mH) (hb : f_thr i h = some b) : vx_Met l yX9_throwFailure (.code yX9_throwFailure cX9_throwFailure 1 none :: mTb) rmAt (va_Pc (([.inr (.inr (9, i))] : List mV).map (mC G)) (mPreT G h)) (QT G (eT b)) (XT G (eT b)) 1 6 (mA G) := by
  refine vx_ofW (cc := cX9_throwFailure) (maxL := 1) (ret := none) (by decide +kernel) rfl ?_
  intro p e s m args below meth c s₁ B hml hex hv
  obtain ⟨rfl, hKT, hw, hT⟩ := hv
  have hts := atoms_spec (ws := Cond.code yX9_throwFailure cX9_throwFailure 1 none :: mTb) B.pre
  have hown : s.vm.findClass RX9 = some m.cls := findClass_of_methodNamed B.named
  have hl := lv_entry (([.inr (.inr (9, i))] : List mV).map (mC G)) (n := 1) (Nat.le_of_ble_eq_true rfl)
  rw [mArg_lv] at hl
  rw [lg_entry_eq]
  exact sf_thr G (p, l, e, rmAt, s, m, _, below, meth, c, 0, 0, fun r => vx_MQ below (QT G r) (XT G r) _ s 1 6 (mA G)) i h ⟨hl0, hT, ⟨rfl, rfl⟩, hex, rfl⟩ b hb ⟨B.exec, B.bytes, hml, hown, fun w hw => hts w (List.mem_cons_of_mem _ hw), B.returns, B.notSynchronized, hKT, rfl, ⟨Nat.zero_le _, Nat.zero_le _⟩, fun z => by cases z⟩ s.heap [] _ hw va_S.rf hl (by
    intro q hq
    simp [mArg] at hq
    subst hq
    exact Or.inl hi) (fun v hv => by cases hv)
theorem me_thr : mMe yX9_throwFailure cX9_throwFailure 1 none 0 := ⟨by decide +kernel, by decide +kernel, by decide +kernel, by decide +kernel, by decide +kernel⟩
theorem ml_thr : Cond.methodLink RX11 280 yX9_throwFailure ∈ mTb := by decide +kernel
theorem mi_thr : Cond.instanceMethod yX9_throwFailure ∈ mTb := by decide +kernel
theorem ms_thr : Cond.selects yX9_throwFailure.cls yX9_throwFailure yX9_throwFailure ∈ mTb := by decide +kernel
def f_X11_toss (x1 : Int32) (h : mH) : Option (Int32 × mH) :=
  (f_X11_isTape x1 h).bind fun r1 =>
  if r1.1 = 0 then some (-1, r1.2)
  else
    if mIn x1 6 = true then
      if r1.2.1 9 x1.toNatClampNeg 0 = 5 then
        (f_thr x1.toNatClampNeg r1.2).bind fun b =>
        bif b.1 then (f_X11_nearestInt (b.2.2 8 (x1.toNatClampNeg + 2) 13) b.2).bind fun r2 => some (r2.1, r2.2)
        else (f_X11_hostRefuses (-15) b.2).bind fun r2 => some (r2.1, r2.2)
      else
        if r1.2.1 9 x1.toNatClampNeg 0 = 0 then (f_X11_hostRefuses (-11) r1.2).bind fun r2 => some (r2.1, r2.2)
        else (f_X11_hostRefuses (-12) r1.2).bind fun r2 => some (r2.1, r2.2)
    else none
def rmT : Room := { frames := 7, cells := 1, slots := 6, locals := 130 }
def tsX (G : mG) (X : mX) : Prop := match X with
  | (_, _, _, _, s, _, args, below, _, _, nc, ns, QQ) => (nc = 0 ∧ ns = 0) ∧ QQ = fun r => MQ below (mQ G r) args s 1 6 (mA G)
def tuX (G : mG) (X : mX) : Prop := match X with
  | (_, _, _, _, s, _, args, below, _, _, nc, ns, QQ) => (nc = 1 ∧ ns = 6) ∧ QQ = fun r => MQ below (mQ G r) args s 1 6 (mA G)
def ttX (G : mG) (X : mX) : Prop := match X with
  | (_, l, _, _, s, _, _, _, _, c, _, _, _) => l.stackTraces = false ∧ mTh G s ∧ c.exceptionTable.toList = [] ++ (⟨43, 47, 50, 283⟩ : ExceptionTableEntry) :: []
theorem s_iretT {G : mG} {X : mX} {cc : ByteArray} {nL : Nat} {own : String} {pc : Nat} {L : List (Nat × mV)} {h : mH} {x : Int32} (hX : tsX G X) (hd : decode cc pc = .ok (.ireturn, 1)) : Sim G X cc nL own (some .int) rmT eI (some (x, h)) pc L [.inl x] h := by
  intro a ha
  cases ha
  obtain ⟨p, l, e, R, s, m, args, below, meth, c, nc, ns, QQ⟩ := X
  intro F H locs ls hw hS hl hL hst
  obtain ⟨hx, hb, hml, hown, hts, hr, hlk, hK, rfl, hnc, hQQ⟩ := id F
  obtain ⟨⟨rfl, rfl⟩, rfl⟩ := hX
  refine W.widen (k := 1) (n := 6) (by decide) (by decide) ?_
  exact W.iret hx hb hr (fun t ht _ => ⟨rfl, fun v hv => (by cases hv; exact trivial), by rw [ht]; exact hw, hS.F ht⟩) hS.2.2 hd hlk
theorem s_iretU {G : mG} {X : mX} {cc : ByteArray} {nL : Nat} {own : String} {pc : Nat} {L : List (Nat × mV)} {h : mH} {x : Int32} (hX : tuX G X) (hd : decode cc pc = .ok (.ireturn, 1)) : Sim G X cc nL own (some .int) rmT eI (some (x, h)) pc L [.inl x] h := by
  intro a ha
  cases ha
  obtain ⟨p, l, e, R, s, m, args, below, meth, c, nc, ns, QQ⟩ := X
  intro F H locs ls hw hS hl hL hst
  obtain ⟨hx, hb, hml, hown, hts, hr, hlk, hK, rfl, hnc, hQQ⟩ := id F
  obtain ⟨⟨rfl, rfl⟩, rfl⟩ := hX
  exact W.iret hx hb hr (fun t ht _ => ⟨rfl, fun v hv => (by cases hv; exact trivial), by rw [ht]; exact hw, hS.F ht⟩) hS.2.2 hd hlk
theorem s_toss51 {G : mG} {X : mX} {i : Nat} {h : mH} {L : List (Nat × mV)} (hX : tuX G X) (hL2 : L[0]? = some (2, .inr (.inr (9, i)))) : Sim G X cX11_toss 4 RX11 (some .int) rmT eI ((f_X11_nearestInt (h.2 8 (i + 2) 13) h).bind fun r2 => some (r2.1, r2.2)) 51 L [] h := by
  refine s_aload2 0 hL2 dX11_toss_51 ?_
  refine s_gr (gR_RX11_273 i) dX11_toss_52 ?_
  refine s_gj gJ_RX11_226 dX11_toss_55 ?_
  refine s_siI [.inr (.inl (h.2 8 (i + 2) 13))] (fun l b hb hl => cf_X11_nearestInt G l (h.2 8 (i + 2) 13) h b hb hl) me_X11_nearestInt si_RX11_192 rfl rfl rfl rfl rfl dX11_toss_58 (fun r2 => ?_)
  exact s_iretU hX dX11_toss_61
theorem s_toss47 {G : mG} {X : mX} {h : mH} {L : List (Nat × mV)} (hX : tuX G X) (hL0 : L[1]? = some (0, .inr (.inr (11, 0)))) : Sim G X cX11_toss 4 RX11 (some .int) rmT eI ((f_X11_hostRefuses (-15) h).bind fun r2 => some (r2.1, r2.2)) 47 L [] h := by
  refine s_goto (tgt := 62) dX11_toss_47 (by decide) ?_
  refine s_aload0 1 hL0 dX11_toss_62 ?_
  refine s_bip (-15) (by decide) dX11_toss_63 ?_
  refine s_viI [.inl (-15)] (fun l b hb hl => cf_X11_hostRefuses G l (-15) h b hb hl) me_X11_hostRefuses vi_RX11_256 rfl rfl rfl rfl rfl dX11_toss_65 (fun r2 => ?_)
  exact s_iretU hX dX11_toss_68
set_option maxHeartbeats 1000000 in
theorem s_try {G : mG} {X : mX} {i : Nat} {x1 : Int32} {h : mH} (hi : i < 6) (hX : tsX G X) (hX2 : ttX G X) : Sim G X cX11_toss 4 RX11 (some .int) rmT eI ((f_thr i h).bind fun b => bif b.1 then (f_X11_nearestInt (b.2.2 8 (i + 2) 13) b.2).bind fun r2 => some (r2.1, r2.2) else (f_X11_hostRefuses (-15) b.2).bind fun r2 => some (r2.1, r2.2)) 43 [(2, .inr (.inr (9, i))), (0, .inr (.inr (11, 0))), (1, .inl x1)] [] h := by
  intro a ha
  obtain ⟨b, hb0, ha⟩ := Option.bind_eq_some_iff.mp ha
  obtain ⟨p, l, e, R, s, m, args, below, meth, c, nc, ns, QQ⟩ := X
  intro F H locs ls hw hS hl hL hst
  obtain ⟨hx, hb, hml, hown, hts, hr, hlk, hK, rfl, hnc, hQQ⟩ := id F
  obtain ⟨⟨rfl, rfl⟩, rfl⟩ := hX
  obtain ⟨hl0, hT, htab⟩ := hX2
  have hat := hw.1 9 i hi
  rw [mE_obj (c := 9) rfl] at hat
  refine lv_aload_n hx hb dX11_toss_43 rfl (lv_at hl 0 rfl) ?_
  have hrun := vx_runV (p := p) (e := e) (m := m) (args := args) (below := below) (meth := meth) (c := c) (H := H) (locs := locs) (cells := 0) (slots := 0) (R := rmT) (g := F0 m 44 ls [.ref (G.2.2.1 9 i)]) (b := G.2.2.1 9 i) (As := []) (rest := []) (index := 280) (n := 0) (C := yX9_throwFailure.cls)
    ⟨hx, hb, hml, hown, hts⟩ (cf_thr G l hl0 i hi h b hb0) ⟨callB_of 0 hts (mGood me_thr.1) rfl rfl rfl (hts _ me_thr.2.1) (hts _ ml_thr) me_thr.2.2 ⟨by decide, by decide⟩, hts _ mi_thr, hts _ ms_thr⟩
    ⟨mPreT_blind G h _, va_recv hK.1 (va_P_one hat) cls_9.1 (q0 := 0) rfl, fun U hU hW => ⟨rfl, hK.warm hW, by rw [hU]; exact hw, hT.warm hW (fun a z1 z2 => by rw [hU]; exact hS.2.1 a z1 z2)⟩⟩ rfl rfl hl.1 rfl (lv_room (Nat.le_of_ble_eq_true rfl)) dX11_toss_44 ⟨by decide, by decide⟩
  refine vx_callv hrun hS (fun q _ z => z) (fun q z => z) (fun q _ z => z) (fun E ce q9 u t H1 locs1 ht hvm hp hB z1 o1 hS hc1 hc2 hc3 => ?_) (fun u t H1 locs1 ht hvm hp hB z1 o1 hS => ?_)
  · obtain ⟨hw1, e1, rfl⟩ := hB
    subst hp
    rw [ht] at hw1
    obtain ⟨v0, h1⟩ := b
    cases v0 with
    | false => exact absurd e1 (by intro z; cases z)
    | true =>
      refine vx_catch (own := RX11) (name := "java/lang/IllegalStateException") (E := "java/lang/IllegalStateException") hown [] ⟨43, 47, 50, 283⟩ [] htab (fun z hz => by cases hz) (by decide) (by decide) (hts _ xl3) (va_Nw.use rfl hT.2.2.2.2.2.1) hc1 hc2 hc3 ?_
      refine lv_astore_n hx hb dX11_toss_50 (i := 3) rfl hl (by decide) rfl (fun ls hl => ?_)
      exact s_toss51 (G := G) (X := (p, l, e, rmT, s, m, args, below, meth, c, 1, 6, _)) (L := [(2, .inr (.inr (9, i))), (0, .inr (.inr (11, 0))), (1, .inl x1)]) ⟨⟨rfl, rfl⟩, rfl⟩ rfl a ha ⟨hx, hb, hml, hown, hts, hr, hlk, hK, rfl, ⟨by decide, by decide⟩, fun z => by cases z⟩ H1 locs1 ls hw1 hS ⟨hl.1, hl.2.1, fun q hq => hl.2.2 q (List.mem_cons_of_mem _ hq)⟩ hL hst
  · obtain ⟨e1, rfl⟩ := hp
    obtain ⟨v0, h1⟩ := b
    have hw1 : mW G h1 H1 := by rw [← ht]; exact hB
    cases v0 with
    | true => exact absurd e1 (by intro z; cases z)
    | false =>
      exact s_toss47 (G := G) (X := (p, l, e, rmT, s, m, args, below, meth, c, 1, 6, _)) (L := [(2, .inr (.inr (9, i))), (0, .inr (.inr (11, 0))), (1, .inl x1)]) ⟨⟨rfl, rfl⟩, rfl⟩ rfl a ha ⟨hx, hb, hml, hown, hts, hr, hlk, hK, rfl, ⟨by decide, by decide⟩, fun z => by cases z⟩ H1 locs1 ls hw1 hS hl hL hst
theorem mIn_lt {x : Int32} {n : Nat} (h : mIn x n = true) : x.toNatClampNeg < n := by
  simp [mIn] at h
  exact h.2
theorem sf_X11_toss (G : mG) (X : mX) (x1 : Int32) (h : mH) (hX : tsX G X) (hX2 : ttX G X) : Sim G X cX11_toss 4 RX11 (some .int) rmT eI (f_X11_toss x1 h) 0 [(0, .inr (.inr (11, 0))), (1, .inl x1)] [] h := by
  unfold f_X11_toss
  refine s_iload1 1 rfl dX11_toss_0 ?_
  refine s_siI [.inl x1] (fun l b hb hl => cf_X11_isTape G l x1 h b hb hl) me_X11_isTape si_RX11_253 rfl rfl rfl rfl rfl dX11_toss_1 (fun r1 => ?_)
  refine s_if_ne (tgt := 9) dX11_toss_4 (by decide) (fun q1 => ?_) (fun q1 => s_km1 dX11_toss_7 (s_iretT hX dX11_toss_8))
  refine s_aload0 0 rfl dX11_toss_9 ?_
  refine s_gr (gR_RX11_52 0) dX11_toss_10 ?_
  refine s_iload1 1 rfl dX11_toss_13 ?_
  refine s_chk (fun q2 => ?_)
  refine s_aal (aR_45 0 x1) q2 dX11_toss_14 ?_
  refine s_astore2 [(2, .inr (.inr (9, x1.toNatClampNeg))), (0, .inr (.inr (11, 0))), (1, .inl x1)] rfl rfl dX11_toss_15 ?_
  refine s_aload2 0 rfl dX11_toss_16 ?_
  refine s_gi gI_RX11_269 dX11_toss_17 ?_
  refine s_k5 dX11_toss_20 ?_
  refine s_ic_eq (tgt := 43) dX11_toss_21 (by decide) (fun q5 => s_try (mIn_lt q2) hX hX2) (fun q3 => ?_)
  refine s_aload0 1 rfl dX11_toss_24 ?_
  refine s_aload2 0 rfl dX11_toss_25 ?_
  refine s_gi gI_RX11_269 dX11_toss_26 ?_
  refine s_if_ne (tgt := 37) dX11_toss_29 (by decide) (fun q4 => ?_) (fun q4 => ?_)
  · refine s_bip (-12) kb_m12 dX11_toss_37 ?_
    refine s_viI [.inl (-12)] (fun l b hb hl => cf_X11_hostRefuses G l (-12) r1.2 b hb hl) me_X11_hostRefuses vi_RX11_256 rfl rfl rfl rfl rfl dX11_toss_39 (fun r2 => ?_)
    exact s_iretT hX dX11_toss_42
  · refine s_bip (-11) kb_m11 dX11_toss_32 ?_
    refine s_goto (tgt := 39) dX11_toss_34 (by decide) ?_
    refine s_viI [.inl (-11)] (fun l b hb hl => cf_X11_hostRefuses G l (-11) r1.2 b hb hl) me_X11_hostRefuses vi_RX11_256 rfl rfl rfl rfl rfl dX11_toss_39 (fun r2 => ?_)
    exact s_iretT hX dX11_toss_42
theorem cf_X11_toss (G : mG) (l : Launch) (hl0 : l.stackTraces = false) (x1 : Int32) (h : mH) (b : Int32 × mH) (hb : f_X11_toss x1 h = some b) : Met l yX11_toss (.codeWith yX11_toss cX11_toss 4 (some .int) [(43, 47, 50, 283)] :: mTb) rmT (va_Pc (([.inr (.inr (11, 0)), .inl x1] : List mV).map (mC G)) (mPreT G h)) (mQ G (eI b)) 1 6 (mA G) := by
  refine va_MetW (cc := cX11_toss) (maxL := 4) (ret := some .int) (by decide +kernel) rfl ?_
  intro p e s m args below meth c s₁ B hml hv
  obtain ⟨rfl, hKT, hw, hT⟩ := hv
  have hts := atoms_spec (ws := Cond.codeWith yX11_toss cX11_toss 4 (some .int) [(43, 47, 50, 283)] :: mTb) B.pre
  have hown : s.vm.findClass RX11 = some m.cls := findClass_of_methodNamed B.named
  have htab := vx_table (x := yX11_toss) B (hts _ List.mem_cons_self)
  have hl := lv_entry (([.inr (.inr (11, 0)), .inl x1] : List mV).map (mC G)) (n := 4) (Nat.le_of_ble_eq_true rfl)
  rw [mArg_lv] at hl
  rw [lg_entry_eq]
  exact sf_X11_toss G (p, l, e, rmT, s, m, _, below, meth, c, 0, 0, fun r => MQ below (mQ G r) _ s 1 6 (mA G)) x1 h ⟨⟨rfl, rfl⟩, rfl⟩ ⟨hl0, hT, by rw [htab]; rfl⟩ b hb ⟨B.exec, B.bytes, hml, hown, fun w hw => hts w (List.mem_cons_of_mem _ hw), B.returns, B.notSynchronized, hKT, rfl, ⟨Nat.zero_le _, Nat.zero_le _⟩, fun z => by cases z⟩ s.heap [] _ hw va_S.rf hl (by
    intro q hq
    simp [mArg] at hq
    rcases hq with rfl | rfl
    · exact Or.inl (by decide)
    · trivial) (fun v hv => by cases hv)
theorem s_toss {α : Type} {G : mG} {X : mX} {em : α → mRes} {pc : Nat} {L : List (Nat × mV)} {st : List mV} {h : mH} {b n k : Nat} {sc : Nat → Int32} {kf : Int32 × mH → Option α} {st0 : List mV} {idx : Nat} (x1 : Int32) (hX : lwX G X b n sc (k + 1)) (hlink : Cond.methodLink RL idx yX11_toss ∈ mTb) (hst0 : .inl x1 :: .inr (.inr (11, 0)) :: st = st0) (hsz : Nat.ble (mSz st) 8 = true) (hd : decode cL_law pc = .ok (.invokevirtual idx, 3))
    (kk : ∀ r : Int32 × mH, Sim G (mUp X) cL_law 8 RL (some .boolean) room_1 em (kf r) (pc + 3) L (.inl r.1 :: st) r.2) : Sim G X cL_law 8 RL (some .boolean) room_1 em ((f_X11_toss x1 h).bind kf) pc L st0 h := by
  intro a ha
  subst hst0
  obtain ⟨r, hr0, ha⟩ := Option.bind_eq_some_iff.mp ha
  have kk := kk r a ha
  obtain ⟨p, l, e, R, s, m, args, below, meth, c, nc, ns, QQ⟩ := X
  intro F H locs ls hw hS hl hL hst
  obtain ⟨hx, hb, hml, hown, hts, hr, hlk, hK, rfl, hnc, hQQ⟩ := id F
  obtain ⟨h1, h2, _, h4, h5, h6, h7, h8, h9, h10⟩ := hX
  have hat := hw.1 11 0 (by decide)
  rw [mE_obj (c := 11) rfl] at hat
  have hsz2 : (((st.map (mC G)).map fun v => v.category).sum) ≤ 8 := by
    have e : ((st.map (mC G)).map fun v => v.category).sum = mSz st := by
      simp [mSz, List.map_map, Function.comp_def, mC_cat]
    rw [e]; exact Nat.le_of_ble_eq_true hsz
  have hrun := vx_runVW (p := p) (e := e) (m := m) (args := args) (below := below) (meth := meth) (c := c) (H := H) (locs := locs) (cells := nc) (slots := ns) (R := room_1) (g := F0 m pc ls ((.inl x1 :: .inr (.inr (11, 0)) :: st).map (mC G))) (b := G.2.2.1 11 0) (As := [.int x1]) (rest := st.map (mC G)) (index := idx) (n := 1) (C := yX11_toss.cls)
    ⟨hx, hb, hml, hown, hts⟩ (cf_X11_toss G l h1 x1 h r hr0) ⟨⟨rfl, rfl, by decide, by decide, pay_in hts (mGoodW lw_cT), List.mem_cons_self⟩, hts _ lw_cT, hts _ lw_iT, ⟨by decide +kernel, by decide +kernel⟩, lw_nT, hts _ hlink, hts _ lw_mT, hts _ lw_sT⟩
    ⟨mPreT_blind G h _, va_recv hK.1 (va_P_one hat) cls_11.1 (q0 := 0) rfl, fun U hU hW => ⟨rfl, hK.warm hW, by rw [hU]; exact hw, h2.warm hW (fun a z1 z2 => by rw [hU]; exact hS.2.1 a z1 z2)⟩⟩ rfl rfl hl.1 rfl (lv_room hsz2) hd ⟨by show nc + 1 ≤ 601024; omega, by show ns + 6 ≤ 7293034; omega⟩
  refine mCallU hrun hS (fun H1 locs1 hli hw1 hS1 => ?_)
  exact kk ⟨hx, hb, hml, hown, hts, hr, hlk, hK, rfl, ⟨by show nc + 1 ≤ 601024; omega, by show ns + 6 ≤ 7293034; omega⟩, fun z => by cases z⟩ H1 locs1 ls hw1 hS1 hl hL (fun v hv => by
    rcases List.mem_cons.mp hv with rfl | hv
    · exact trivial
    · exact hst v (by simp [hv]))
theorem s_pop {α : Type} {G : mG} {X : mX} {cc : ByteArray} {nL : Nat} {own : String} {rt : Option FieldType} {rm : Room} {em : α → mRes} {f : Option α} {pc : Nat} {L : List (Nat × mV)} {st : List mV} {h : mH} {v : mV} (hv : mCat v = 1) (hd : decode cc pc = .ok (.pop, 1))
    (k : Sim G X cc nL own rt rm em f (pc + 1) L st h) : Sim G X cc nL own rt rm em f pc L (v :: st) h := by
  intro a ha
  have k := k a ha
  obtain ⟨p, l, e, R, s, m, args, below, meth, c, nc, ns, QQ⟩ := X
  intro F H locs ls hw hS hl hL hst
  have k := k F H locs ls hw hS hl hL
  obtain ⟨hx, hb, hml, hown, hts, hr, hlk, hK, hrm, hnc, hQQ⟩ := id F
  exact lv_pop hx hb hd (by rw [mC_cat]; exact hv) (k (fun w hq => hst w (List.mem_cons_of_mem _ hq)))
