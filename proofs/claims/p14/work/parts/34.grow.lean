/-! ===== A WORLD THAT GROWS: new cells come at the heap's end, one behind another: z + 0, z + 1 .. ===== -/
/-- which cells may change: those from z on, and the object's own (a) -/
def gA (z : Nat) (o : Option Nat) : Nat → Prop := fun q => z ≤ q ∨ o = some q
/-- the object's own cell (at a) is e0; the new ones are cs, from z on -/
def gW (G : mG) (z : Nat) (o : Option Nat) (e0 : va_E) (cs : List va_E) (H : Heap) : Prop := H.size = z + cs.length ∧ (∀ a, o = some a → a < z ∧ va_at G.1 mCl (a, e0) H) ∧ ∀ (j : Nat) (x : va_E), cs[j]? = some x → va_at G.1 mCl (z + j, x) H
/-- the class of int[][], as the tables have it -/
def gAOA (U : State) : Prop := (Cond.arrayOver (.array .int)).before #[] U = true
theorem gAOA.moved {u U : State} (hvm : u.vm.Alike U.vm) (h : gAOA u) : gAOA U := by
  obtain ⟨comp, c, k, h1, h2, h3, h4, h5⟩ := arrayOverA_spec h
  obtain ⟨k', hk', he⟩ := hvm.2.2 _ _ h3
  have b1 := va_idx_bare u.vm comp
  have b2 := va_idx_bare U.vm comp
  have e9 := hvm.bare_eq
  have hi : (U.vm.classes.findIdx? fun (x : Class) => match x.kind with | .array component _ => component == comp | _ => false) = some c := by
    first | rw [e9] at b1 | rw [← e9] at b1
    exact b2.symm.trans (b1.trans h2)
  have hkind : k'.kind = .array comp (.array .int) := by rw [he]; exact h4
  have f1 : U.vm.findClass (FieldType.array .int).toString = some comp := by rw [hvm.findClass]; exact h1
  have f2 : U.vm.findClass ("[" ++ (FieldType.array .int).toString) = some c := by rw [hvm.findClass]; exact h5
  unfold gAOA Cond.before Cond.holds
  simp only [Cond.value]
  rw [f1, Option.bind_some]
  refine (congrArg (fun o : Option Nat => (o.bind (fun c => (U.vm.classes[c]?).map fun (k : Class) => match k.kind with | .array _ ty => decide (ty = FieldType.array .int) && decide (U.vm.findClass ("[" ++ (FieldType.array .int).toString) = some c) | _ => false) == some true)) hi).trans ?_
  simp [hk', hkind, f2]
def gKT (U : State) : Prop := va_AO "DriverBook$Act" U ∧ va_AO "DriverBook$Field" U ∧ va_AO "DriverBook$Law" U ∧ va_AO "DriverBook$Tape" U ∧ gAOA U
def gDef (c : Nat) : List Value := (List.range (mNs c)).map fun k => defaultValue (mTy c k)
theorem gDef_at {c j : Nat} (h : j < mNs c) : defaultValue (mTy c j) = vp_V (gDef c) j := by
  simp [vp_V, gDef, List.getElem?_range h]
def gPre (G : mG) (z a : Nat) (e0 : va_E) : State → Prop := fun U => U.heap.size = z ∧ a < z ∧ va_at G.1 mCl (a, e0) U.heap ∧ mKT G U ∧ gKT U
def gQ (G : mG) (z a : Nat) (e1 : va_E) (cs : List va_E) : Array Value → State → Outcome → State → Prop := fun _ st oc t => oc = .returned none ∧ gW G z (some a) e1 cs t.heap ∧ va_F (gA z (some a)) st t
/-- a constructor's contract -/
def gMet (G : mG) (l : Launch) (y : MethodName) (cc : ByteArray) (nL : Nat) (rm : Room) (as : List Value) (a z : Nat) (e0 e1 : va_E) (cs : List va_E) : Prop :=
  Met l y (.code y cc nL none :: mTb) rm (va_Pc (.ref a :: as) (gPre G z a e0)) (gQ G z a e1 cs) rm.cells rm.slots (gA z (some a))
theorem gKT.warm {u U : State} (hvm : u.vm.Alike U.vm) (h : gKT u) : gKT U := ⟨va_AO.moved hvm h.1, va_AO.moved hvm h.2.1, va_AO.moved hvm h.2.2.1, va_AO.moved hvm h.2.2.2.1, gAOA.moved hvm h.2.2.2.2⟩
theorem gPre_blind (G : mG) (z a : Nat) (e0 : va_E) (av : List Value) : FrameBlind (va_Pc av (gPre G z a e0)) := fun a U g mk q => ⟨q.1, q.2.1, q.2.2.1, q.2.2.2.1, mKT.same (u := U) (U := U.calling g mk a) rfl q.2.2.2.2.1, gKT.warm (u := U) (U := U.calling g mk a) (Vm.Alike.refl U.vm) q.2.2.2.2.2⟩
theorem gW.lt {G : mG} {z : Nat} {o : Option Nat} {e0 : va_E} {cs : List va_E} {H : Heap} (h : gW G z o e0 cs H) {j : Nat} {x : va_E} (hj : cs[j]? = some x) : j < cs.length := (List.getElem?_eq_some_iff.mp hj).1
/-- the object's own cell changes -/
theorem gW.self {G : mG} {z a : Nat} {e0 e1 : va_E} {cs : List va_E} {H H1 : Heap} (h : gW G z (some a) e0 cs H) (hz : H1.size = H.size) (oq : ∀ q : Nat, q ≠ a → H1[q]? = H[q]?) (he : va_at G.1 mCl (a, e1) H1) : gW G z (some a) e1 cs H1 := by
  refine ⟨hz.trans h.1, fun b hb => ?_, fun j x hj => ?_⟩
  · cases hb
    exact ⟨(h.2.1 a rfl).1, he⟩
  · exact (h.2.2 j x hj).kept (oq _ (by have := (h.2.1 a rfl).1; show z + j ≠ a; omega))
/-- a new cell's contents change -/
theorem gW.cell {G : mG} {z j : Nat} {o : Option Nat} {e0 x y : va_E} {cs : List va_E} {H H1 : Heap} (h : gW G z o e0 cs H) (hj : cs[j]? = some x) (hz : H1.size = H.size) (oq : ∀ q : Nat, q ≠ z + j → H1[q]? = H[q]?) (he : va_at G.1 mCl (z + j, y) H1) : gW G z o e0 (cs.set j y) H1 := by
  refine ⟨by rw [hz, List.length_set]; exact h.1, fun b hb => ?_, fun k v hk => ?_⟩
  · have q := h.2.1 b hb
    exact ⟨q.1, q.2.kept (oq _ (by show b ≠ z + j; omega))⟩
  · rcases Nat.decEq k j with e | e
    · rw [List.getElem?_set_ne (fun q => e q.symm)] at hk
      exact (h.2.2 k v hk).kept (oq _ (by show z + k ≠ z + j; omega))
    · subst e
      rw [List.getElem?_set_self (h.lt hj)] at hk
      cases hk
      exact he
/-- new cells -/
theorem gW.push {G : mG} {z : Nat} {o : Option Nat} {e0 : va_E} {cs ds : List va_E} {H H1 : Heap} (h : gW G z o e0 cs H) (hz : H1.size = H.size + ds.length) (oq : ∀ q : Nat, q < H.size → H1[q]? = H[q]?) (he : ∀ (j : Nat) (x : va_E), ds[j]? = some x → va_at G.1 mCl (H.size + j, x) H1) : gW G z o e0 (cs ++ ds) H1 := by
  have h0 := h.1
  refine ⟨by rw [hz, List.length_append]; omega, fun b hb => ?_, fun k v hk => ?_⟩
  · have q := h.2.1 b hb
    exact ⟨q.1, q.2.kept (oq _ (by show b < _; omega))⟩
  · by_cases e : k < cs.length
    · rw [List.getElem?_append_left e] at hk
      exact (h.2.2 k v hk).kept (oq _ (by show z + k < _; omega))
    · rw [List.getElem?_append_right (by omega)] at hk
      have q := he _ _ hk
      rw [show H.size + (k - cs.length) = z + k by omega] at q
      exact q
theorem gS.push {z : Nat} {o : Option Nat} {H0 H H1 : Heap} {locs : List Loc} (h : va_S (gA z o) H0 H locs) (hz : H.size ≤ H1.size) (oq : ∀ q : Nat, q < H.size → H1[q]? = H[q]?) : va_S (gA z o) H0 H1 locs := ⟨Nat.le_trans h.1 hz, fun q h1 h2 => (oq q (Nat.lt_of_lt_of_le h1 h.1)).trans (h.2.1 q h1 h2), h.2.2⟩
def gLk (own : String) (idx : Nat) (y : MethodName) : Prop := Cond.methodLink own idx y ∈ mTb ∨ ∃ host, Cond.methodLinkNest own idx y host ∈ mNw
section GR
variable {p : Program} {l : Launch} {e : Env} {R : Room} {s : State} {m : MethodId} {args : Array Value} {below : List Frame} {meth : Method} {c0 : Code} {H : Heap} {locs : List Loc} {nc ns : Nat} {Q : State → Prop}
variable {cc : ByteArray} {pc : Nat} {ls : Array Slot} {rest : List Value} {G : mG} {z : Nat} {o : Option Nat} {e0 : va_E} {cs : List va_E} {own : String}
theorem g_new {C : String} {T : u_T} {c idx : Nat} (nn : Nat) (hnn : cs.length = nn) (hx : p.tables.exec = Jvm.exec) (hb : c0.code = cc) (hts : ∀ w ∈ mTb, w.before args s = true) (hown : s.vm.findClass own = some m.cls) (hK : mKT G s) (hg : gW G z o e0 cs H) (hS : va_S (gA z o) s.heap H locs)
    (hc : mCls c C T) (h1 : Cond.classLink own idx C ∈ mTb) (h2 : Cond.instantiable C (mNs c) ∈ mTb) (h3 : Cond.initialized C ∈ mTb) (hcells : nc + 1 ≤ R.cells) (hslots : ns + mNs c ≤ R.slots) (hd : decode cc pc = .ok (.new idx, 3))
    (kk : ∀ H1 : Heap, gW G z o e0 (cs ++ [.inr (c, gDef c)]) H1 → va_S (gA z o) s.heap H1 locs → W p l e R s m args below meth c0 H1 locs (nc + 1) (ns + mNs c) Q (F0 m (pc + 3) ls (.ref (z + nn) :: rest))) : W p l e R s m args below meth c0 H locs nc ns Q (F0 m pc ls rest) := by
  subst hnn
  have hKn := hK.1.1 c _ hc.1
  refine W.newcK hx hb hown (hts _ h1) (hts _ h2) (hts _ h3) rfl hd hcells hslots hKn.2.1 hg.1 fun H1 kC hkC e1 z1 o1 => ?_
  rw [← hg.1] at e1 z1 o1
  refine kk H1 (hg.push z1 o1 fun j x hj => ?_) (gS.push hS (by omega) o1)
  have hz : j < 1 := (List.getElem?_eq_some_iff.mp hj).1
  rw [show j = 0 by omega] at hj ⊢
  cases hj
  exact ⟨_, hc.1, (u_born (mTy c) hts hc.2.1 hKn hkC e1 hc.2.2.2).to (fun k hk => gDef_at hk)⟩
theorem g_newa {at_ : ArrayType} {ty : FieldType} {n : Int32} {N t0 : Nat} {a0 : vp_A} (nn : Nat) (hnn : cs.length = nn) (hx : p.tables.exec = Jvm.exec) (hb : c0.code = cc) (hts : ∀ w ∈ mTb, w.before args s = true) (hK : mKT G s) (hg : gW G z o e0 cs H) (hS : va_S (gA z o) s.heap H locs)
    (hty : newarray.typeOf at_ = ty) (harr : Cond.arrayClass ty ∈ mTb) (ht : mTyL[t0]? = some ty) (hra : ∀ (U : State) (c : ClassId), va_RA U c ty → U.vm.findClass ("[" ++ ty.toString) = some c) (ha : ∀ cA : ClassId, vp_cell cA a0 = arrV cA N (fun _ => defaultValue ty)) (hn : ¬ n < 0) (hN : n.toNatClampNeg = N) (hbytes : N * componentBytes ty ≤ 536870912) (hcells : nc + 1 ≤ R.cells) (hslots : ns + N ≤ R.slots) (hd : decode cc pc = .ok (.newarray at_, 2))
    (kk : ∀ H1 : Heap, gW G z o e0 (cs ++ [.inl (G.2.1 ty, a0)]) H1 → va_S (gA z o) s.heap H1 locs → (cs ++ [(.inl (G.2.1 ty, a0) : va_E)]).length = nn + 1 → W p l e R s m args below meth c0 H1 locs (nc + 1) (ns + N) Q (F0 m (pc + 2) ls (.ref (z + nn) :: rest))) : W p l e R s m args below meth c0 H locs nc ns Q (F0 m pc ls (.int n :: rest)) := by
  subst hnn
  subst hty
  refine va_newaK hx hb (hts _ harr) rfl hd rfl hn hN hbytes hcells hslots hg.1 fun H1 cA e1 z1 o1 hAr hNm => ?_
  rw [← hg.1] at e1 z1 o1
  have ht1 : (mTys G)[t0]? = some (G.2.1 (newarray.typeOf at_), newarray.typeOf at_) := by rw [mTys, List.getElem?_map, ht]; rfl
  have hcA : cA = G.2.1 (newarray.typeOf at_) := Option.some.inj (hNm.symm.trans (hra _ _ (hK.1.2 t0 _ ht1).2))
  subst hcA
  refine kk H1 (hg.push z1 o1 fun j x hj => ?_) (gS.push hS (by omega) o1) (by simp)
  have hz : j < 1 := (List.getElem?_eq_some_iff.mp hj).1
  rw [show j = 0 by omega] at hj ⊢
  cases hj
  show H1[_]? = some (vp_cell _ _)
  rw [ha]
  exact e1
theorem g_newq {C : String} {idx t0 : Nat} {n : Int32} {N : Nat} (nn : Nat) (hnn : cs.length = nn) (hx : p.tables.exec = Jvm.exec) (hb : c0.code = cc) (hts : ∀ w ∈ mTb, w.before args s = true) (hown : s.vm.findClass own = some m.cls) (hK : mKT G s) (hg : gW G z o e0 cs H) (hS : va_S (gA z o) s.heap H locs)
    (h1 : Cond.classLink own idx C ∈ mTb) (hover : va_AO C s) (ht : mTyL[t0]? = some (.object C)) (hn : ¬ n < 0) (hN : n.toNatClampNeg = N) (hbytes : N * 4 ≤ 536870912) (hcells : nc + 1 ≤ R.cells) (hslots : ns + N ≤ R.slots) (hd : decode cc pc = .ok (.anewarray idx, 3))
    (kk : ∀ H1 : Heap, gW G z o e0 (cs ++ [.inl (G.2.1 (.object C), N, .inr (.inr (.inr (.inr (fun _ => none)))))]) H1 → va_S (gA z o) s.heap H1 locs → (cs ++ [(.inl (G.2.1 (.object C), N, .inr (.inr (.inr (.inr (fun _ => none))))) : va_E)]).length = nn + 1 → (cs ++ [(.inl (G.2.1 (.object C), N, .inr (.inr (.inr (.inr (fun _ => none))))) : va_E)])[nn]? = some (.inl (G.2.1 (.object C), N, .inr (.inr (.inr (.inr (fun _ => none)))))) → W p l e R s m args below meth c0 H1 locs (nc + 1) (ns + N) Q (F0 m (pc + 3) ls (.ref (z + nn) :: rest))) : W p l e R s m args below meth c0 H locs nc ns Q (F0 m pc ls (.int n :: rest)) := by
  subst hnn
  subst hN
  refine W.anew hx hb hown (hts _ h1) (va_AO.use hover) rfl hd rfl hn hbytes hcells hslots fun cA kA comp f1 f2 f3 f4 => ?_
  have ht1 : (mTys G)[t0]? = some (G.2.1 (.object C), .object C) := by rw [mTys, List.getElem?_map, ht]; rfl
  obtain ⟨kA', comp', k1, k2, k3, k4⟩ := (hK.1.2 t0 _ ht1).2
  have hcA : cA = G.2.1 (.object C) := Option.some.inj (f1.symm.trans k4)
  subst hcA
  generalize hH1 : H.push ({ cls := G.2.1 (.object C), slots := Array.replicate n.toNatClampNeg .null, vm := .none } : Cell) = H1
  have z1 : H1.size = H.size + 1 := by rw [← hH1, Array.size_push]
  have e1 : H1[H.size]? = some (arrV (G.2.1 (.object C)) n.toNatClampNeg (fun _ => .null)) := by rw [← hH1, Array.getElem?_push_size, ← arrV_new]
  have o1 : ∀ q : Nat, q < H.size → H1[q]? = H[q]? := fun q hq => by rw [← hH1, Array.getElem?_push, if_neg (Nat.ne_of_lt hq)]
  rw [show H.size = z + cs.length from hg.1]
  refine kk H1 (hg.push z1 o1 fun j x hj => ?_) (gS.push hS (by omega) o1) (by simp) (by simp)
  have hz : j < 1 := (List.getElem?_eq_some_iff.mp hj).1
  rw [show j = 0 by omega] at hj ⊢
  cases hj
  show H1[_]? = some (vp_cell _ _)
  rw [vp_cell_q]
  exact e1
/-- a field of the object itself, final or not -/
theorem g_put {C : String} {T : u_T} {a c k idx : Nat} {fs : List Value} (fs' : List Value) {ty : FieldType} {v : Value} (hx : p.tables.exec = Jvm.exec) (hb : c0.code = cc) (hts : ∀ w ∈ mTb, w.before args s = true) (hown : s.vm.findClass own = some m.cls) (hin2 : meth.name = "<init>") (hK : mKT G s) (hg : gW G z (some a) (.inr (c, fs)) cs H) (hS : va_S (gA z (some a)) s.heap H locs)
    (hc : mCls c C T) (hk : k < mNs c) (hlink : Cond.fieldLink own idx (T k).1 (T k).2.1 (T k).2.2.1 ∈ mTb) (hdecl : (T k).1 = own) (hy : mTy c k = ty) (hn : narrow ty v = v) (hfit : fits ty v = true) (hl : k < fs.length) (hfs : fs.set k v = fs') (hd : decode cc pc = .ok (.putfield idx, 3))
    (kk : ∀ (H1 : Heap) (locs1 : List Loc), gW G z (some a) (.inr (c, fs')) cs H1 → va_S (gA z (some a)) s.heap H1 locs1 → W p l e R s m args below meth c0 H1 locs1 nc ns Q (F0 m (pc + 3) ls rest)) : W p l e R s m args below meth c0 H locs nc ns Q (F0 m pc ls (v :: .ref a :: rest)) := by
  subst hfs
  obtain ⟨hcl, hin, hnm, hty⟩ := hc
  have hap := va_apart (own := own) hts hin (mTy c) hty hnm hK.1 hcl
  obtain ⟨r, h1, cell, q1, q2, q3, q4⟩ := (hg.2.1 a rfl).2
  have hr : r = (C, T, mNs c) := Option.some.inj (h1.symm.trans hcl)
  subst hr
  obtain ⟨hSl, hfc, kC, hkC, hkind⟩ := hK.1.1 c _ hcl
  obtain ⟨cf, kf, fi, f, hi, hsl⟩ := hSl k hk
  have hlay := hts _ (hin _ (u_in_lay hk))
  unfold u_lay at hlay
  have hst := (u_facts hfc hkC (u_lays hts hin hk) hi).1
  have hdty : parseFieldDescriptor (T k).2.2.1 = some ty := by rw [hty k hk, hy]
  have key : ∀ (H' : Heap), H'[a]? = some (cell.setSlot (f.slot) v) → H'.size = H.size → (∀ q : Nat, q ≠ a → H'[q]? = H[q]?) → W p l e R s m args below meth c0 H' (locs ++ [⟨a, f.slot⟩]) nc ns Q (F0 m (pc + 3) ls rest) := fun H' e1 e2 e3 => by
    rw [hsl] at e1 ⊢
    exact kk H' _ (hg.self e2 e3 ⟨_, hcl, t_OB.to (V := updV (vp_V fs) k v) ⟨_, e1, q2, q3, t_set q4 hap hk v⟩ (fun j _ => vp_updV_set hl v j)⟩) (hS.put e2 e3 (Or.inr rfl))
  by_cases hfin : (T k).2.2.2 = true
  · rw [if_pos hfin] at hlay
    have hcf : m.cls = cf := by
      obtain ⟨_, _, c', _, _, _, -, -, hf', -, -, -, hown2, -⟩ := Cond.laysFinal_spec hlay
      have e1 : c' = cf := by have := hi.symm.trans hf'; simp at this; exact this.1.symm
      rw [hdecl] at hown2
      rw [← e1]; exact Option.some.inj (hown.symm.trans hown2)
    have h6 := u_fits hfc hkC hkind (Or.inr hlay) hi hdty hn hfit
    exact W.putFinK hx hb hown (hts _ hlink) hi hst hcf hin2 (by rw [q2]; exact h6) q1 q3 (by rw [hsl]; exact k2_hasslot (q4 k hk)) rfl rfl hd key
  · rw [if_neg hfin] at hlay
    have h6 := u_store hfc hkC hkind hlay hi hdty hn hfit
    exact W.putK hx hb (f := f) ⟨hown, hts _ hlink, ⟨_, _, _, hi⟩, hst⟩ (by rw [q2]; exact h6) q1 q3 (by rw [hsl]; exact k2_hasslot (q4 k hk)) rfl rfl hd key
theorem g_get {C : String} {T : u_T} {a c k idx : Nat} {fs : List Value} {v : Value} (hx : p.tables.exec = Jvm.exec) (hb : c0.code = cc) (hts : ∀ w ∈ mTb, w.before args s = true) (hown : s.vm.findClass own = some m.cls) (hK : mKT G s) (hg : gW G z (some a) (.inr (c, fs)) cs H)
    (hc : mCls c C T) (hk : k < mNs c) (hlink : Cond.fieldLink own idx (T k).1 (T k).2.1 (T k).2.2.1 ∈ mTb) (hv : fs[k]? = some v) (hd : decode cc pc = .ok (.getfield idx, 3))
    (kk : W p l e R s m args below meth c0 H locs nc ns Q (F0 m (pc + 3) ls (v :: rest))) : W p l e R s m args below meth c0 H locs nc ns Q (F0 m pc ls (.ref a :: rest)) :=
  va_get hx hb hts hc.2.1 hown hK.1 (va_P_one (hg.2.1 a rfl).2) 0 rfl hc.1 k hk (hts _ hlink) (fun _ q => q) hv hd kk
/-- an object into an array of such -/
theorem g_aast {j t0 v ci n : Nat} {r : vw_C} {f : Nat → Option Nat} {vs : List Value} {i : Int32} (hx : p.tables.exec = Jvm.exec) (hb : c0.code = cc) (hK : mKT G s) (hg : gW G z o e0 cs H) (hS : va_S (gA z o) s.heap H locs)
    (hj : cs[j]? = some (.inl (G.2.1 (.object r.1), n, .inr (.inr (.inr (.inr f)))))) (ht : mTyL[t0]? = some (.object r.1)) (hv : cs[v]? = some (.inr (ci, vs))) (hc : mCl[ci]? = some r) (hin : vp_in i n) (hd : decode cc pc = .ok (.aastore, 1))
    (kk : ∀ (H1 : Heap) (locs1 : List Loc), gW G z o e0 (cs.set j (.inl (G.2.1 (.object r.1), n, .inr (.inr (.inr (.inr (va_up f i.toNatClampNeg (some (z + v))))))))) H1 → va_S (gA z o) s.heap H1 locs1 → W p l e R s m args below meth c0 H1 locs1 nc ns Q (F0 m (pc + 1) ls rest)) : W p l e R s m args below meth c0 H locs nc ns Q (F0 m pc ls (.ref (z + v) :: .int i :: .ref (z + j) :: rest)) := by
  have hlt : i.toNatClampNeg < n := Nat.not_le.mp fun q => hin (Or.inr q)
  have h0 : ¬ i < 0 := fun q => hin (Or.inl q)
  obtain ⟨r', hr', cellV, g1, g2, g3, -⟩ := hg.2.2 v _ hv
  have hcls := (hK.1.1 ci r hc).2
  have ht1 : (mTys G)[t0]? = some (G.2.1 (.object r.1), .object r.1) := by rw [mTys, List.getElem?_map, ht]; rfl
  obtain ⟨kA, comp, k1, k2, k3, -⟩ := (hK.1.2 t0 _ ht1).2
  have hcomp : comp = G.1.1 ci := Option.some.inj (k3.symm.trans hcls.1)
  subst hcomp
  obtain ⟨kC, hkC, -⟩ := hcls.2
  refine W.aast hx hb (hg.2.2 j _ hj) (fun q h => by cases h) (fun h => by cases h) k1 k2 rfl hkC ⟨h0, by show _ < (arrV _ _ _).slots.size; rw [arrV_size]; exact hlt⟩ g1 (fun q h => by rw [g3] at h; cases h) (by rw [g2]; exact hkC) (by rw [g2]; exact va_assign hcls) rfl rfl hd fun H1 e z1 oq => ?_
  refine kk H1 _ (hg.cell hj z1 oq ?_) (hS.put z1 oq (Or.inl (Nat.le_add_right _ _)))
  show H1[z + j]? = some (vp_cell _ _)
  rw [e]
  show some ((vp_cell _ _).setSlot _ _) = _
  rw [vp_cell_q, vp_cell_q, arrV_store]
  congr 2
  funext q
  by_cases hq : q = i.toNatClampNeg
  · subst hq
    simp [updV, va_up, va_rf]
  · simp [updV, va_up, hq]
/-- a constructor is called, on a new cell -/
theorem g_init {y : MethodName} {cy : ByteArray} {ny n idx j : Nat} {rmy : Room} {As st0 : List Value} {nL : Nat} {f0 f1 : va_E} {ds : List va_E} (nn : Nat) (hnn : cs.length = nn) (hx : p.tables.exec = Jvm.exec) (hb : c0.code = cc) (hml : c0.maxLocals = nL) (hts : ∀ w ∈ mTb, w.before args s = true) (hown : s.vm.findClass own = some m.cls) (hK : mKT G s) (hgK : gKT s) (hg : gW G z o e0 cs H) (hS : va_S (gA z o) s.heap H locs) (hsz : ls.size = nL)
    (hM : gMet G l y cy ny rmy As (z + j) (z + nn) f0 f1 ds) (hme : mMe y cy ny none n) (hin : Cond.instanceMethod y ∈ mTb) (hlink : gLk own idx y) (hy1 : y.name = "<init>") (hj : cs[j]? = some f0) (hn : As.length = n) (hst0 : As.reverse ++ .ref (z + j) :: rest = st0)
    (hR : rmy.frames + 1 ≤ R.frames ∧ 8 + (ny + 11) + rmy.locals ≤ R.locals) (hRm : (rest.map fun v => v.category).sum ≤ 8) (hcells : nc + rmy.cells ≤ R.cells) (hslots : ns + rmy.slots ≤ R.slots) (hd : decode cc pc = .ok (.invokespecial idx, 3))
    (kk : ∀ (H1 : Heap) (locs1 : List Loc), gW G z o e0 (cs.set j f1 ++ ds) H1 → va_S (gA z o) s.heap H1 locs1 → W p l e R s m args below meth c0 H1 locs1 (nc + rmy.cells) (ns + rmy.slots) Q (F0 m (pc + 3) ls rest)) : W p l e R s m args below meth c0 H locs nc ns Q (F0 m pc ls st0) := by
  subst hnn
  subst hst0
  have hlt := hg.lt hj
  have hsH := hg.1
  have hpre : PreS s H (va_Pc (.ref (z + j) :: As) (gPre G (z + cs.length) (z + j) f0)) (.ref (z + j) :: As) := ⟨gPre_blind G _ _ _ _, fun U hU hW => ⟨rfl, by rw [hU]; exact hsH, by omega, by rw [hU]; exact hg.2.2 j _ hj, hK.warm hW, hgK.warm hW.alike⟩⟩
  have hrun : va_Run p l e R s m args below meth c0 H locs nc ns rmy.cells rmy.slots (F0 m pc ls (As.reverse ++ .ref (z + j) :: rest)) rest (gQ G (z + cs.length) (z + j) f1 ds (Value.ref (z + j) :: As).toArray) (gA (z + cs.length) (some (z + j))) := by
    rcases hlink with hlink | ⟨host, hlink⟩
    · exact va_runI (index := idx) (n := n) ⟨hx, hb, hml, hown, hts⟩ hM ⟨callB_of n hts (mGood hme.1) rfl rfl rfl (hts _ hme.2.1) (hts _ hlink) hme.2.2 hR, hy1, hts _ hin⟩ hpre rfl hn hsz rfl (lv_room hRm) hd ⟨hcells, hslots⟩
    · exact va_runIN (index := idx) (n := n) ⟨hx, hb, hml, hown, hts⟩ hM ⟨va_cnB n hts (mGood hme.1) rfl rfl rfl (hK.2 _ hlink) (hts _ hme.2.1) hme.2.2 hR, hy1, hts _ hin⟩ hpre rfl hn hsz rfl (lv_room hRm) hd ⟨hcells, hslots⟩
  intro T hT X
  obtain ⟨v, st₀, t, T', L, h0, X', hL, e1, e2, ⟨hv, hgw, hz, hk⟩, st⟩ := hrun T hT X
  cases hv
  rw [h0] at hz hk
  have hgw' : gW G (z + cs.length) (some (z + j)) f1 ds T'.heap := by rw [e1]; exact hgw
  have hk' : ∀ q : Nat, q < H.size → q ≠ z + j → T'.heap[q]? = H[q]? := fun q h1 h2 => by
    rw [e1]
    refine hk q h1 (fun h => ?_)
    rcases h with h | h
    · omega
    · exact h2 (Option.some.inj h).symm
  have hg1 : gW G z o e0 (cs.set j f1 ++ ds) T'.heap := by
    refine ⟨by rw [hgw'.1, List.length_append, List.length_set]; omega, fun b hb => ?_, fun k x hx => ?_⟩
    · have q := hg.2.1 b hb
      exact ⟨q.1, q.2.kept (hk' b (by omega) (by omega))⟩
    · by_cases hkl : k < cs.length
      · rw [List.getElem?_append_left (by rw [List.length_set]; exact hkl)] at hx
        rcases Nat.decEq k j with e | e
        · rw [List.getElem?_set_ne (fun q => e q.symm)] at hx
          exact (hg.2.2 k x hx).kept (hk' (z + k) (by omega) (by omega))
        · subst e
          rw [List.getElem?_set_self hkl] at hx
          cases hx
          exact (hgw'.2.1 _ rfl).2
      · rw [List.getElem?_append_right (by rw [List.length_set]; omega), List.length_set] at hx
        have q := hgw'.2.2 _ _ hx
        rw [show z + cs.length + (k - cs.length) = z + k by omega] at q
        exact q
  obtain ⟨t2, a1, b1⟩ := kk T'.heap (locs ++ L) hg1
    ⟨Nat.le_trans hS.1 (by rw [e1]; exact hz), fun q h1 h2 => by
      rw [hk' q (Nat.lt_of_lt_of_le h1 hS.1) (fun h => h2 (Or.inl (by omega)))]; exact hS.2.1 q h1 h2, fun q hq => by
      rcases List.mem_append.mp hq with h | h
      · exact hS.2.2 q h
      · rcases hL q h with h | h
        · exact Or.inl (by omega)
        · exact Or.inl (by have := Option.some.inj h; omega)⟩ T' rfl X'
  exact ⟨t2, st t2 a1, b1⟩
/-- new int[n][k], on the growing world -/
theorem g_mna {idx t0 : Nat} {n k : Int32} {N K : Nat} (nn : Nat) (hnn : cs.length = nn) (hx : p.tables.exec = Jvm.exec) (hb : c0.code = cc) (hts : ∀ w ∈ mTb, w.before args s = true) (hown : s.vm.findClass own = some m.cls) (hK : mKT G s) (hgK : gKT s) (hg : gW G z o e0 cs H) (hS : va_S (gA z o) s.heap H locs)
    (h1 : Cond.classLink own idx ("[" ++ (FieldType.array .int).toString) ∈ mTb) (harr : Cond.arrayClass .int ∈ mTb) (ht : mTyL[t0]? = some (.array .int)) (hn : ¬ n < 0) (hk : ¬ k < 0) (hN : n.toNatClampNeg = N) (hM : k.toNatClampNeg = K) (hb1 : N * 4 ≤ 536870912) (hb2 : K * componentBytes .int ≤ 536870912) (hb3 : K ≤ 536870912) (hcells : nc + (1 + N) ≤ R.cells) (hslots : ns + (N + N * K) ≤ R.slots) (hd : decode cc pc = .ok (.multianewarray idx 2, 4))
    (kk : ∀ H1 : Heap, gW G z o e0 (cs ++ (.inl (G.2.1 (.array .int), N, .inr (.inr (.inr (.inr (fun i => some (z + nn + 1 + i)))))) :: List.replicate N (.inl (G.2.1 .int, K, .inl (fun _ => 0))))) H1 → va_S (gA z o) s.heap H1 locs → (cs ++ ((.inl (G.2.1 (.array .int), N, .inr (.inr (.inr (.inr (fun i => some (z + nn + 1 + i)))))) : va_E) :: List.replicate N (.inl (G.2.1 .int, K, .inl (fun _ => 0)) : va_E))).length = nn + 1 + N → W p l e R s m args below meth c0 H1 locs (nc + 1 + N) (ns + N + N * K) Q (F0 m (pc + 4) ls (.ref (z + nn) :: rest))) : W p l e R s m args below meth c0 H locs nc ns Q (F0 m pc ls (.int k :: .int n :: rest)) := by
  subst hnn
  refine k_mna hx hb hown (hts _ h1) hgK.2.2.2.2 (hts _ harr) hn hk hN hM hb1 hb2 hb3 hcells hslots hd fun cA comp H1 fA fC z1 o1 e1 er => ?_
  have ht1 : (mTys G)[t0]? = some (G.2.1 (.array .int), .array .int) := by rw [mTys, List.getElem?_map, ht]; rfl
  have hcA : cA = G.2.1 (.array .int) := Option.some.inj (fA.symm.trans (hK.1.2 t0 _ ht1).2)
  have hcI : comp = G.2.1 .int := Option.some.inj (fC.symm.trans (hK.1.2 0 _ rfl).2)
  subst hcA
  subst hcI
  rw [show H.size = z + cs.length from hg.1]
  refine kk H1 (hg.push (by rw [z1]; simp; omega) o1 fun j x hj => ?_) (gS.push hS (by omega) o1) (by simp; omega)
  match j, hj with
  | 0, hj =>
    cases hj
    show H1[_]? = some (vp_cell _ _)
    rw [vp_cell_q, ← hg.1]
    exact e1
  | j + 1, hj =>
    rw [List.getElem?_cons_succ] at hj
    have hlt : j < N := by
      have := (List.getElem?_eq_some_iff.mp hj).1
      simpa using this
    rw [List.getElem?_replicate, if_pos hlt] at hj
    cases hj
    show H1[_]? = some (vp_cell _ _)
    rw [vp_cell_i, show H.size + (j + 1) = H.size + 1 + j by omega]
    exact er j hlt
/-- a constructor is called on the cell that was made last -/
theorem g_initl {y : MethodName} {cy : ByteArray} {ny n idx : Nat} {rmy : Room} {As st0 : List Value} {nL : Nat} {f0 f1 : va_E} {ds : List va_E} (nn nd : Nat) (hnn : cs.length = nn) (hds : ds.length = nd) (hx : p.tables.exec = Jvm.exec) (hb : c0.code = cc) (hml : c0.maxLocals = nL) (hts : ∀ w ∈ mTb, w.before args s = true) (hown : s.vm.findClass own = some m.cls) (hK : mKT G s) (hgK : gKT s) (hg : gW G z o e0 (cs ++ [f0]) H) (hS : va_S (gA z o) s.heap H locs) (hsz : ls.size = nL)
    (hM : gMet G l y cy ny rmy As (z + nn) (z + (nn + 1)) f0 f1 ds) (hme : mMe y cy ny none n) (hin : Cond.instanceMethod y ∈ mTb) (hlink : gLk own idx y) (hy1 : y.name = "<init>") (hn : As.length = n) (hst0 : As.reverse ++ .ref (z + nn) :: rest = st0)
    (hR : rmy.frames + 1 ≤ R.frames ∧ 8 + (ny + 11) + rmy.locals ≤ R.locals) (hRm : (rest.map fun v => v.category).sum ≤ 8) (hcells : nc + rmy.cells ≤ R.cells) (hslots : ns + rmy.slots ≤ R.slots) (hd : decode cc pc = .ok (.invokespecial idx, 3))
    (kk : ∀ (H1 : Heap) (locs1 : List Loc), gW G z o e0 (cs ++ (f1 :: ds)) H1 → va_S (gA z o) s.heap H1 locs1 → (cs ++ (f1 :: ds)).length = nn + 1 + nd → W p l e R s m args below meth c0 H1 locs1 (nc + rmy.cells) (ns + rmy.slots) Q (F0 m (pc + 3) ls rest)) : W p l e R s m args below meth c0 H locs nc ns Q (F0 m pc ls st0) := by
  subst hnn
  refine g_init (j := cs.length) (cs.length + 1) (by simp) hx hb hml hts hown hK hgK hg hS hsz hM hme hin hlink hy1 (by simp) hn hst0 hR hRm hcells hslots hd (fun H1 locs1 hg1 hS1 => ?_)
  have e : (cs ++ [f0]).set cs.length f1 ++ ds = cs ++ (f1 :: ds) := by
    rw [List.set_append_right _ _ (Nat.le_refl _), Nat.sub_self]
    simp
  rw [e] at hg1
  exact kk H1 locs1 hg1 hS1 (by simp [hds]; omega)
end GR
/-- a constructor's contract, out of a walk of its body -/
theorem gMet.of {G : mG} {l : Launch} {y : MethodName} {cc : ByteArray} {nL : Nat} {rm : Room} {as : List Value} {a z : Nat} {e0 e1 : va_E} {cs : List va_E} (hy : plainName y.cls = true) (hyn : y.name = "<init>") (hz : (lg_sl (.ref a :: as)).length ≤ nL)
    (k : ∀ (p : Program) (e : Env) (s : State) (m : MethodId) (args : Array Value) (below : List Frame) (meth : Method) (c : Code), p.tables.exec = Jvm.exec → c.code = cc → c.maxLocals = nL → s.vm.findClass y.cls = some m.cls → (∀ w ∈ mTb, w.before args s = true) → meth.sig.returnType = none → meth.locks = false → meth.name = "<init>" → mKT G s → gKT s → gW G z (some a) e0 [] s.heap → ∀ ls : Array Slot, lv_has ls nL (lv_args 0 (.ref a :: as)) → va_S (gA z (some a)) s.heap s.heap [] →
      W p l e rm s m args below meth c s.heap [] 0 0 (MQ below (gQ G z a e1 cs) args s rm.cells rm.slots (gA z (some a))) (F0 m 0 ls [])) : gMet G l y cc nL rm as a z e0 e1 cs := by
  refine Met.ofW (cc := cc) (maxL := nL) (ret := none) hy rfl ?_
  intro p e s m args below meth c s₁ B hml hv
  obtain ⟨rfl, hsz, haz, hat, hKT, hgK⟩ := hv
  have hts := atoms_spec (ws := Cond.code y cc nL none :: mTb) B.pre
  have hown : s.vm.findClass y.cls = some m.cls := findClass_of_methodNamed B.named
  have hl := lv_entry (.ref a :: as) (n := nL) hz
  rw [lg_entry_eq]
  exact k p e s m _ below meth c B.exec B.bytes hml hown (fun w hw => hts w (List.mem_cons_of_mem _ hw)) B.returns B.notSynchronized (hyn ▸ (name_of_methodNamed B.named B.method).1) hKT hgK ⟨hsz, fun b hb => (by cases hb; exact ⟨haz, hat⟩), fun j x hj => (by cases hj)⟩ _ hl va_S.rf
