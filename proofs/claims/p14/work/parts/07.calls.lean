/-! ===== contracts out of Sim, and calls ===== -/
def mArg : Nat → List mV → List (Nat × mV)
  | _, [] => []
  | i, v :: vs => (i, v) :: mArg (if mCat v = 2 then i + 2 else i + 1) vs
theorem mArg_lv (G : mG) : ∀ (vs : List mV) (i : Nat), lv_args i (vs.map (mC G)) = mLs G (mArg i vs)
  | [], _ => rfl
  | v :: vs, i => by
    show (i, mC G v) :: lv_args (if (mC G v).category = 2 then i + 2 else i + 1) (vs.map (mC G)) = (i, mC G v) :: mLs G (mArg (if mCat v = 2 then i + 2 else i + 1) vs)
    rw [mC_cat, mArg_lv G vs]
theorem mArg_li : ∀ (vs : List mV) (i : Nat), (∀ v ∈ vs, mLi v) → ∀ q ∈ mArg i vs, mLi q.2
  | [], _, _, q, hq => by cases hq
  | v :: vs, i, h, q, hq => by
    rcases List.mem_cons.mp hq with rfl | hq
    · exact h v List.mem_cons_self
    · exact mArg_li vs _ (fun w hw => h w (List.mem_cons_of_mem _ hw)) q hq
def mPre (G : mG) (h : mH) : State → Prop := fun U => mKT G U ∧ mW G h U.heap
def mMet (G : mG) (l : Launch) (y : MethodName) (cc : ByteArray) (nL : Nat) (rt : Option FieldType) (rm : Room) (as : List mV) (h : mH) (r : mRes) : Prop :=
  Met l y (.code y cc nL rt :: mTb) rm (va_Pc (as.map (mC G)) (mPre G h)) (mQ G r) 0 0 (mA G)
def mSz (vs : List mV) : Nat := (vs.map mCat).sum
theorem mSz_sl (G : mG) : ∀ vs : List mV, (lg_sl (vs.map (mC G))).length = mSz vs
  | [] => rfl
  | v :: vs => by
    have ih := mSz_sl G vs
    have e : lg_sl ((v :: vs).map (mC G)) = (if (mC G v).category = 2 then [Slot.val (mC G v), .second] else [Slot.val (mC G v)]) ++ lg_sl (vs.map (mC G)) := rfl
    rw [e, List.length_append, ih, mC_cat]
    show _ = mCat v + mSz vs
    rcases v with x | x | x <;> simp [mCat]
/-- THE CONTRACT of a method, out of its function -/
theorem mMet.of {α : Type} {em : α → mRes} {f : Option α} {G : mG} {l : Launch} {y : MethodName} {cc : ByteArray} {nL : Nat} {rt : Option FieldType} {rm : Room} {as : List mV} {h : mH} (hy : plainName y.cls = true) (hz : mSz as ≤ nL)
    (k : ∀ X : mX, Sim G X cc nL y.cls rt rm em f 0 (mArg 0 as) [] h) (hli : ∀ v ∈ as, mLi v) (a : α) (ha : f = some a) : mMet G l y cc nL rt rm as h (em a) := by
  refine Met.ofW (cc := cc) (maxL := nL) (ret := rt) hy rfl ?_
  intro p e s m args below meth c s₁ B hml hv
  obtain ⟨rfl, hKT, hw⟩ := hv
  have hts := atoms_spec (ws := Cond.code y cc nL rt :: mTb) B.pre
  have hown : s.vm.findClass y.cls = some m.cls := findClass_of_methodNamed B.named
  have hl := lv_entry (as.map (mC G)) (n := nL) (by rw [mSz_sl]; exact hz)
  rw [mArg_lv] at hl
  rw [lg_entry_eq]
  exact k (p, l, e, rm, s, m, _, below, meth, c, 0, 0, fun r => MQ below (mQ G r) _ s 0 0 (mA G)) a ha ⟨B.exec, B.bytes, hml, hown, fun w hw => hts w (List.mem_cons_of_mem _ hw), B.returns, B.notSynchronized, hKT, rfl, ⟨Nat.zero_le _, Nat.zero_le _⟩, fun _ => ⟨rfl, rfl, rfl⟩⟩ s.heap [] _ hw va_S.rf hl (mArg_li as 0 hli) (fun v hv => by cases hv)
theorem mGood {y : MethodName} {cc : ByteArray} {nL : Nat} {rt : Option FieldType} (hc : Cond.code y cc nL rt ∈ mTb) : GoodIn mTb (.code y cc nL rt :: mTb) := fun w hw => by
  have hm : w ∈ mTb := by
    rcases List.mem_cons.mp hw with rfl | hw
    · exact hc
    · exact hw
  exact ⟨hm, good_of_word (List.mem_filter.mp hm).2⟩
theorem mPre_blind (G : mG) (h : mH) (av : List Value) : FrameBlind (va_Pc av (mPre G h)) := fun a U g mk q => ⟨q.1, mKT.same (u := U) (U := U.calling g mk a) rfl q.2.1, q.2.2⟩
/-- what is fixed of a method that is called -/
def mMe (y : MethodName) (cc : ByteArray) (nL : Nat) (rt : Option FieldType) (n : Nat) : Prop := Cond.code y cc nL rt ∈ mTb ∧ Cond.initialized y.cls ∈ mTb ∧ y.cls ≠ "java/lang/invoke/MethodHandle" ∧ y.cls ≠ "java/lang/invoke/VarHandle" ∧ (parseMethodDescriptor y.desc).map (fun d => d.parameters.length) = some n
section MK
variable {p : Program} {l : Launch} {e : Env} {R : Room} {s : State} {m : MethodId} {args : Array Value} {below : List Frame} {meth : Method} {c : Code} {H : Heap} {locs : List Loc} {Q : State → Prop}
theorem mCall {nc ns : Nat} {G : mG} {r : mRes} {pc : Nat} {ls : Array Slot} {st0 rest : List Value} {a : Array Value} (hr : va_Run p l e R s m args below meth c H locs nc ns 0 0 (F0 m pc ls st0) rest (mQ G r a) (mA G)) (hS : va_S (mA G) s.heap H locs)
    (kk : ∀ (H1 : Heap) (locs1 : List Loc), (∀ v, r.1 = some v → mLi v) → mW G r.2 H1 → va_S (mA G) s.heap H1 locs1 → W p l e R s m args below meth c H1 locs1 nc ns Q (F0 m (pc + 3) ls ((r.1.map (mC G)).toList ++ rest))) : W p l e R s m args below meth c H locs nc ns Q (F0 m pc ls st0) := by
  intro T hT X
  obtain ⟨v, st₀, t, T', Lc, h0, X', hL, e1, e2, ⟨hv, hli, hw, hz, hk⟩, st⟩ := hr T hT X
  cases hv
  rw [h0] at hz hk
  obtain ⟨t2, a1, b1⟩ := kk T'.heap (locs ++ Lc) hli (by rw [e1]; exact hw)
    ⟨Nat.le_trans hS.1 (by rw [e1]; exact hz), fun q h1 h2 => by rw [e1, hk q (Nat.lt_of_lt_of_le h1 hS.1) h2]; exact hS.2.1 q h1 h2, fun q hq => by
      rcases List.mem_append.mp hq with h | h
      · exact hS.2.2 q h
      · exact hL q h⟩ T' rfl X'
  exact ⟨t2, st t2 a1, b1⟩
end MK
section MV
variable {α β : Type} {G : mG} {X : mX} {cc : ByteArray} {nL : Nat} {own : String} {rt : Option FieldType} {rm : Room} {em : α → mRes} {pc : Nat} {L : List (Nat × mV)} {st : List mV} {h : mH}
/-- a call of an instance's method -/
theorem s_invv {emc : β → mRes} {fc : Option β} {kf : β → Option α} {y : MethodName} {cy : ByteArray} {ny n idx t i c : Nat} {ry : Option FieldType} {rmy : Room} {T : u_T} {as st0 : List mV}
    (hM : ∀ (l : Launch) (b : β), fc = some b → (∀ v ∈ (.inr (.inr (t, i)) :: as : List mV), mLi v) → mMet G l y cy ny ry rmy (.inr (.inr (t, i)) :: as) h (emc b)) (hme : mMe y cy ny ry n) (hrc : rmy.cells = 0) (hrs : rmy.slots = 0)
    (hcl : mCls c y.cls T) (hs : mSh t = .inl c) (h9 : t ≠ 99) (hlink : Cond.methodLink own idx y ∈ mTb) (hin : Cond.instanceMethod y ∈ mTb) (hse : Cond.selects y.cls y y ∈ mTb)
    (hR : rmy.frames + 1 ≤ rm.frames ∧ 8 + (ny + 11) + rmy.locals ≤ rm.locals) (hn : as.length = n) (hst0 : as.reverse ++ .inr (.inr (t, i)) :: st = st0) (hsz : mSz st ≤ 8) (hd : decode cc pc = .ok (.invokevirtual idx, 3))
    (k : ∀ b, fc = some b → Sim G X cc nL own rt rm em (kf b) (pc + 3) L ((emc b).1.toList ++ st) (emc b).2) : Sim G X cc nL own rt rm em (fc.bind kf) pc L st0 h := by
  intro a ha
  subst hst0
  match fc, ha, hM, k with
  | none, ha, _, _ => cases ha
  | some b, ha, hM, k =>
    have hfc : (some b : Option β) = some b := rfl
    have k := k b hfc a ha
    have hM := fun l => hM l b hfc
    obtain ⟨p, l, e, R, s, m, args, below, meth, c0, nc, ns, QQ⟩ := X
    intro F H locs ls hw hS hl hL hst
    obtain ⟨hx, hb, hml, hown, hts, hr, hlk, hK, rfl, hnc, hQQ⟩ := id F
    have hla : ∀ v ∈ (.inr (.inr (t, i)) :: as : List mV), mLi v := fun v hv => by
      refine hst v ?_
      rcases List.mem_cons.mp hv with rfl | hv
      · exact List.mem_append_right _ List.mem_cons_self
      · exact List.mem_append_left _ (List.mem_reverse.mpr hv)
    have hi := mLi_ref (hla _ List.mem_cons_self) h9
    have hat := hw.1 t i hi
    rw [mE_obj hs] at hat
    have hM := hM l hla
    have hrun := va_runV (p := p) (e := e) (m := m) (args := args) (below := below) (meth := meth) (c := c0) (locs := locs) (cells := nc) (slots := ns) (g := F0 m pc ls ((as.reverse ++ .inr (.inr (t, i)) :: st).map (mC G))) (b := G.2.2.1 t i) (As := as.map (mC G)) (rest := st.map (mC G)) (index := idx) (n := n) (C := y.cls)
      ⟨hx, hb, hml, hown, hts⟩ hM ⟨callB_of n hts (mGood hme.1) rfl hrc hrs (hts _ hme.2.1) (hts _ hlink) hme.2.2 hR, hts _ hin, hts _ hse⟩
      ⟨mPre_blind G h _, va_recv hK.1 (va_P_one hat) hcl.1 (q0 := 0) rfl, fun U hU hW => ⟨rfl, hK.warm hW, by rw [hU]; exact hw⟩⟩ rfl (by rw [List.length_map]; exact hn) hl.1 (by simp [mC]) (lv_room (by
        have e : ((st.map (mC G)).map fun v => v.category).sum = mSz st := by
          simp [mSz, List.map_map, Function.comp_def, mC_cat]
        rw [e]; exact hsz)) hd hnc
    refine mCall hrun hS (fun H1 locs1 hli hw1 hS1 => ?_)
    have k := k F H1 locs1 ls hw1 hS1 hl hL (fun v hv => by
      rcases List.mem_append.mp hv with hv | hv
      · exact hli v (by revert hv; cases (emc b).1 <;> simp; exact fun e => e.symm)
      · exact hst v (List.mem_append_right _ (List.mem_cons_of_mem _ hv)))
    rw [List.map_append] at k
    have e : ((emc b).1.toList.map (mC G)) = ((emc b).1.map (mC G)).toList := by cases (emc b).1 <;> rfl
    rw [e] at k
    exact k
/-- a call of a static method -/
theorem s_invs {emc : β → mRes} {fc : Option β} {kf : β → Option α} {y : MethodName} {cy : ByteArray} {ny n idx : Nat} {ry : Option FieldType} {rmy : Room} {as st0 : List mV}
    (hM : ∀ (l : Launch) (b : β), fc = some b → (∀ v ∈ as, mLi v) → mMet G l y cy ny ry rmy as h (emc b)) (hme : mMe y cy ny ry n) (hrc : rmy.cells = 0) (hrs : rmy.slots = 0)
    (hlink : Cond.methodLink own idx y ∈ mTb ∨ ∃ host, Cond.methodLinkNest own idx y host ∈ mNw) (hin : Cond.static y ∈ mTb)
    (hR : rmy.frames + 1 ≤ rm.frames ∧ 8 + (ny + 11) + rmy.locals ≤ rm.locals) (hn : as.length = n) (hst0 : as.reverse ++ st = st0) (hsz : mSz st ≤ 8) (hd : decode cc pc = .ok (.invokestatic idx, 3))
    (k : ∀ b, fc = some b → Sim G X cc nL own rt rm em (kf b) (pc + 3) L ((emc b).1.toList ++ st) (emc b).2) : Sim G X cc nL own rt rm em (fc.bind kf) pc L st0 h := by
  intro a ha
  subst hst0
  match fc, ha, hM, k with
  | none, ha, _, _ => cases ha
  | some b, ha, hM, k =>
    have hfc : (some b : Option β) = some b := rfl
    have k := k b hfc a ha
    have hM := fun l => hM l b hfc
    obtain ⟨p, l, e, R, s, m, args, below, meth, c0, nc, ns, QQ⟩ := X
    intro F H locs ls hw hS hl hL hst
    obtain ⟨hx, hb, hml, hown, hts, hr, hlk, hK, rfl, hnc, hQQ⟩ := id F
    have hla : ∀ v ∈ as, mLi v := fun v hv => hst v (List.mem_append_left _ (List.mem_reverse.mpr hv))
    have hM := hM l hla
    have hroom : (((st.map (mC G)).map fun v => v.category).sum) ≤ 8 := by
      have e : ((st.map (mC G)).map fun v => v.category).sum = mSz st := by
        simp [mSz, List.map_map, Function.comp_def, mC_cat]
      rw [e]; exact hsz
    have hpre : PreS s H (va_Pc (as.map (mC G)) (mPre G h)) (as.map (mC G)) := ⟨mPre_blind G h _, fun U hU hW => ⟨rfl, hK.warm hW, by rw [hU]; exact hw⟩⟩
    have hrun : va_Run p l e R s m args below meth c0 H locs nc ns 0 0 (F0 m pc ls ((as.reverse ++ st).map (mC G))) (st.map (mC G)) (mQ G (emc b) (as.map (mC G)).toArray) (mA G) := by
      rcases hlink with hlink | ⟨host, hlink⟩
      · exact va_runS (index := idx) (n := n) ⟨hx, hb, hml, hown, hts⟩ hM ⟨callB_of n hts (mGood hme.1) rfl hrc hrs (hts _ hme.2.1) (hts _ hlink) hme.2.2 hR, hts _ hin⟩ hpre rfl (by rw [List.length_map]; exact hn) hl.1 (by simp) (lv_room hroom) hd hnc
      · exact va_runSN (index := idx) (n := n) ⟨hx, hb, hml, hown, hts⟩ hM ⟨va_cnB n hts (mGood hme.1) rfl hrc hrs (hK.2 _ hlink) (hts _ hme.2.1) hme.2.2 hR, hts _ hin, trivial⟩ hpre rfl (by rw [List.length_map]; exact hn) hl.1 (by simp) (lv_room hroom) hd hnc
    refine mCall hrun hS (fun H1 locs1 hli hw1 hS1 => ?_)
    have k := k F H1 locs1 ls hw1 hS1 hl hL (fun v hv => by
      rcases List.mem_append.mp hv with hv | hv
      · exact hli v (by revert hv; cases (emc b).1 <;> simp; exact fun e => e.symm)
      · exact hst v (List.mem_append_right _ hv))
    rw [List.map_append] at k
    have e : ((emc b).1.toList.map (mC G)) = ((emc b).1.map (mC G)).toList := by cases (emc b).1 <;> rfl
    rw [e] at k
    exact k
end MV
