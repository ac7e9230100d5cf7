/-! ===== Arrays.fill of a new row of longs; the loops that fill an array with new objects ===== -/
def kfPre (G : mG) (b n : Nat) (f : Nat → Int64) : State → Prop := fun U => b < U.heap.size ∧ va_at G.1 mCl (b, .inl (G.2.1 .long, n, .inr (.inl f))) U.heap ∧ mKT G U
def kfQ (G : mG) (b n : Nat) (v : Int64) : Array Value → State → Outcome → State → Prop := fun _ st oc t => oc = .returned none ∧ t.heap.size = st.heap.size ∧ va_at G.1 mCl (b, .inl (G.2.1 .long, n, .inr (.inl fun _ => v))) t.heap ∧ va_F (fun q => q = b) st t
theorem k_fill_loop {p : Program} {l : Launch} {e : Env} {R : Room} {s : State} {m : MethodId} {args : Array Value} {below : List Frame} {meth : Method} {c : Code} {G : mG} {b n : Nat} {v : Int64} (hx : p.tables.exec = Jvm.exec) (hb : c.code = cJ7_fill_d0a16) (hr : meth.sig.returnType = none) (hlk : meth.locks = false) (hK : mKT G s) (hn : n < 2 ^ 31) (hbl : b < s.heap.size) :
    ∀ (d i : Nat) (f : Nat → Int64) (H : Heap) (locs : List Loc) (ls : Array Slot), i + d = n → (∀ k, k < i → f k = v) → va_at G.1 mCl (b, .inl (G.2.1 .long, n, .inr (.inl f))) H → H.size = s.heap.size → va_S (fun q => q = b) s.heap H locs → lv_has ls 5 [(3, .int (nI i)), (4, .int (nI n)), (0, .ref b), (1, .long v)] →
      W p l e R s m args below meth c H locs 0 0 (MQ below (kfQ G b n v) args s 0 0 (fun q => q = b)) (F0 m 6 ls []) := by
  intro d
  induction d with
  | zero =>
    intro i f H locs ls hi hf hat hsz hS hl
    have hin : i = n := by omega
    subst hin
    refine lv_iload_n hx hb dJ7_fill_d0a16_6 rfl (lv_at hl 0 rfl) ?_
    refine lv_iload hx hb dJ7_fill_d0a16_7 (lv_at hl 1 rfl) ?_
    refine lv_icmp_ge (tgt := 22) hx hb dJ7_fill_d0a16_9 (by decide) (fun _ => ?_) (fun q => absurd (nI_le (Nat.le_refl i) hn) q)
    have hat2 : va_at G.1 mCl (b, .inl (G.2.1 .long, i, .inr (.inl fun _ => v))) H := by
      have z : H[b]? = some (vp_cell _ _) := hat
      show H[b]? = some (vp_cell _ _)
      rw [z, vp_cell_l, vp_cell_l]
      exact congrArg some (arrV_cong fun k hk => by rw [hf k hk])
    exact W.vret hx hb hr (fun t ht _ => ⟨rfl, by rw [ht]; exact hsz, by rw [ht]; exact hat2, hS.F ht⟩) hS.2.2 dJ7_fill_d0a16_22 hlk
  | succ d ih =>
    intro i f H locs ls hi hf hat hsz hS hl
    have hlt : i < n := by omega
    refine lv_iload_n hx hb dJ7_fill_d0a16_6 rfl (lv_at hl 0 rfl) ?_
    refine lv_iload hx hb dJ7_fill_d0a16_7 (lv_at hl 1 rfl) ?_
    refine lv_icmp_ge (tgt := 22) hx hb dJ7_fill_d0a16_9 (by decide) (fun q => absurd q (nI_ge hlt hn)) (fun _ => ?_)
    refine lv_aload_n hx hb dJ7_fill_d0a16_12 rfl (lv_at hl 2 rfl) ?_
    refine lv_iload_n hx hb dJ7_fill_d0a16_13 rfl (lv_at hl 0 rfl) ?_
    refine lv_lload_n hx hb dJ7_fill_d0a16_14 rfl (lv_at hl 3 rfl) ?_
    refine W.last hx hb hat ((hK.1.2 1 _ rfl).1 n (fun j => .long (f j))) (fun q => by cases q) (by show ¬ (nI i < 0 ∨ (arrV _ _ _).slots.size ≤ _); rw [arrV_size]; exact nI_in hlt hn) rfl rfl dJ7_fill_d0a16_15 fun H1 e1 z1 oq => ?_
    have hat1 : va_at G.1 mCl (b, .inl (G.2.1 .long, n, .inr (.inl fun k => if k = i then v else f k))) H1 := by
      show H1[b]? = some (vp_cell _ _)
      rw [e1]
      show some ((vp_cell _ _).setSlot _ _) = _
      rw [vp_cell_l, vp_cell_l, arrV_store, nI_clamp (Nat.lt_trans hlt hn)]
      refine congrArg some (arrV_cong fun k _ => ?_)
      by_cases hk : k = i
      · subst hk
        simp [updV]
      · simp [updV, hk]
    refine W.eq (g2 := F0 m 16 ls []) rfl ?_
    refine lv_iinc (k := 0) (v := nI (i + 1)) hx hb dJ7_fill_d0a16_16 hl rfl (nI_1 i) (by decide) rfl (fun ls hl => ?_)
    refine lv_goto (tgt := 6) hx hb dJ7_fill_d0a16_19 (by decide) ?_
    refine ih (i + 1) _ H1 _ ls (by omega) (fun k hk => ?_) hat1 (z1.trans hsz) (hS.put z1 oq rfl) hl
    by_cases hki : k = i
    · rw [if_pos hki]
    · rw [if_neg hki]
      exact hf k (by omega)
theorem k_fill (G : mG) (l : Launch) (b n : Nat) (f : Nat → Int64) (v : Int64) (hn : n < 2 ^ 31) : Met l yJ7_fill_d0a16 (.code yJ7_fill_d0a16 cJ7_fill_d0a16 5 none :: mTb) (mRoom 0 0) (va_Pc [.ref b, .long v] (kfPre G b n f)) (kfQ G b n v) 0 0 (fun q => q = b) := by
  refine Met.ofW (cc := cJ7_fill_d0a16) (maxL := 5) (ret := none) (by decide +kernel) rfl ?_
  intro p e s m args below meth c s₁ B hml hv
  obtain ⟨rfl, hbl, hat, hK⟩ := hv
  have hx := B.exec
  have hb := B.bytes
  have hr := B.returns
  have hlk := B.notSynchronized
  have hl := lv_entry ([.ref b, .long v]) (n := 5) (Nat.le_of_ble_eq_true rfl)
  rw [lg_entry_eq]
  generalize (lg_sl ([.ref b, .long v]) ++ List.replicate (5 - (lg_sl ([.ref b, .long v])).length) Slot.unset).toArray = ls at hl ⊢
  have hl : lv_has ls 5 [(0, .ref b), (1, .long v)] := hl
  refine lv_iconst hx hb dJ7_fill_d0a16_0 (v := nI 0) (by decide) ?_
  refine lv_istore_n hx hb dJ7_fill_d0a16_1 (i := 3) rfl hl (by decide) rfl (fun ls hl => ?_)
  refine lv_aload_n hx hb dJ7_fill_d0a16_2 rfl (lv_at hl 1 rfl) ?_
  refine va_alen hx hb hK.1 (va_P_one hat) 0 1 rfl rfl (v := nI n) rfl dJ7_fill_d0a16_3 ?_
  refine lv_istore hx hb dJ7_fill_d0a16_4 (i := 4) hl (by decide) rfl (fun ls hl => ?_)
  exact k_fill_loop hx hb hr hlk hK hn hbl n 0 f s.heap [] ls (by omega) (fun k hk => absurd hk (Nat.not_lt_zero k)) hat rfl va_S.rf (lv_sub hl [1, 0, 2, 3] rfl)
theorem kf_blind (G : mG) (b n : Nat) (f : Nat → Int64) (av : List Value) : FrameBlind (va_Pc av (kfPre G b n f)) := fun a U g mk q => ⟨q.1, q.2.1, q.2.2.1, mKT.same (u := U) (U := U.calling g mk a) rfl q.2.2.2⟩
section GF
variable {p : Program} {l : Launch} {e : Env} {R : Room} {s : State} {m : MethodId} {args : Array Value} {below : List Frame} {meth : Method} {c0 : Code} {H : Heap} {locs : List Loc} {nc ns : Nat} {Q : State → Prop}
variable {cc : ByteArray} {pc : Nat} {ls : Array Slot} {rest : List Value} {G : mG} {z : Nat} {o : Option Nat} {e0 : va_E} {cs : List va_E} {own : String}
theorem g_fill {idx j n nL : Nat} {f : Nat → Int64} {v : Int64} (nn : Nat) (hnn : cs.length = nn) (hx : p.tables.exec = Jvm.exec) (hb : c0.code = cc) (hml : c0.maxLocals = nL) (hts : ∀ w ∈ mTb, w.before args s = true) (hown : s.vm.findClass own = some m.cls) (hK : mKT G s) (hg : gW G z o e0 cs H) (hS : va_S (gA z o) s.heap H locs) (hsz : ls.size = nL)
    (hme : mMe yJ7_fill_d0a16 cJ7_fill_d0a16 5 none 2) (hst : Cond.static yJ7_fill_d0a16 ∈ mTb) (hlink : Cond.methodLink own idx yJ7_fill_d0a16 ∈ mTb) (hj : cs[j]? = some (.inl (G.2.1 .long, n, .inr (.inl f)))) (hn : n < 2 ^ 31)
    (hR : 1 ≤ R.frames ∧ 24 ≤ R.locals) (hRm : (rest.map fun v => v.category).sum ≤ 8) (hcells : nc ≤ R.cells) (hslots : ns ≤ R.slots) (hd : decode cc pc = .ok (.invokestatic idx, 3))
    (kk : ∀ (H1 : Heap) (locs1 : List Loc), gW G z o e0 (cs.set j (.inl (G.2.1 .long, n, .inr (.inl fun _ => v)))) H1 → va_S (gA z o) s.heap H1 locs1 → (cs.set j (.inl (G.2.1 .long, n, .inr (.inl fun _ => v)))).length = nn → W p l e R s m args below meth c0 H1 locs1 nc ns Q (F0 m (pc + 3) ls rest)) : W p l e R s m args below meth c0 H locs nc ns Q (F0 m pc ls (.long v :: .ref (z + j) :: rest)) := by
  have hlt := hg.lt hj
  have hsH := hg.1
  have hrun := va_runS (p := p) (e := e) (m := m) (args := args) (below := below) (meth := meth) (c := c0) (locs := locs) (cells := nc) (slots := ns) (H := H) (g := F0 m pc ls (.long v :: .ref (z + j) :: rest)) (As := [.ref (z + j), .long v]) (rest := rest) (index := idx) (n := 2)
    ⟨hx, hb, hml, hown, hts⟩ (k_fill G l (z + j) n f v hn) ⟨callB_of 2 hts (mGood hme.1) rfl rfl rfl (hts _ hme.2.1) (hts _ hlink) hme.2.2 hR, hts _ hst⟩ ⟨kf_blind G _ _ _ _, fun U hU hW => ⟨rfl, by rw [hU]; omega, by rw [hU]; exact hg.2.2 j _ hj, hK.warm hW⟩⟩ rfl rfl hsz rfl (lv_room hRm) hd ⟨hcells, hslots⟩
  intro T hT X
  obtain ⟨v9, st₀, t, T', L, h0, X', hL, e1, e2, ⟨hv, hz1, hat, hz, hk⟩, st⟩ := hrun T hT X
  cases hv
  rw [h0] at hz hk hz1
  have hk' : ∀ q : Nat, q ≠ z + j → T'.heap[q]? = H[q]? := fun q h2 => by
    rw [e1]
    by_cases hq : q < H.size
    · exact hk q hq h2
    · rw [Array.getElem?_eq_none (by omega), Array.getElem?_eq_none (by omega)]
  obtain ⟨t2, a1, b1⟩ := kk T'.heap (locs ++ L) (hg.cell hj (by rw [e1]; exact hz1) hk' (by rw [e1]; exact hat))
    ⟨Nat.le_trans hS.1 (by rw [e1]; exact hz), fun q h1 h2 => by
      rw [hk' q (fun h => h2 (Or.inl (by omega)))]; exact hS.2.1 q h1 h2, fun q hq => by
      rcases List.mem_append.mp hq with h | h
      · exact hS.2.2 q h
      · have h9 : q.base = z + j := hL q h
        exact Or.inl (by rw [h9]; exact Nat.le_add_right z j)⟩ (by rw [List.length_set]; exact hnn) T' rfl X'
  exact ⟨t2, st t2 a1, b1⟩
/-- the k-th block of cells that such a loop makes -/
def gFl (E1 : Nat → va_E) (DS : Nat → List va_E) (z n0 w i : Nat) : List va_E := (List.range i).flatMap fun k => E1 (z + (n0 + w * k) + 1) :: DS (z + (n0 + w * k) + 1)
theorem gFl_len {E1 : Nat → va_E} {DS : Nat → List va_E} {z n0 w i : Nat} (hw : ∀ q, (DS q).length + 1 = w) : (gFl E1 DS z n0 w i).length = w * i := by
  induction i with
  | zero => simp [gFl]
  | succ i ih =>
    unfold gFl at ih ⊢
    rw [List.range_succ, List.flatMap_append, List.length_append, ih]
    simp only [List.flatMap_cons, List.flatMap_nil, List.append_nil, List.length_cons, hw]
    rw [Nat.mul_succ]
theorem gFl_succ {E1 : Nat → va_E} {DS : Nat → List va_E} {z n0 w i : Nat} : gFl E1 DS z n0 w (i + 1) = gFl E1 DS z n0 w i ++ (E1 (z + (n0 + w * i) + 1) :: DS (z + (n0 + w * i) + 1)) := by
  unfold gFl
  rw [List.range_succ, List.flatMap_append]
  simp
def gAr (z n0 w i : Nat) : Nat → Option Nat := fun k => if k < i then some (z + (n0 + w * k)) else none
theorem g_loop {C : String} {T T0 : u_T} {C0 : String} {y : MethodName} {cy : ByteArray} {ny nL a c ca idF idN idI j0 t0 k0 N n0 w : Nat} {rmy : Room} {fs : List Value} {cs0 : List va_E} {E1 : Nat → va_E} {DS : Nat → List va_E} {nb : Int} (pc : Nat)
    (hx : p.tables.exec = Jvm.exec) (hb : c0.code = cc) (hml : c0.maxLocals = nL) (hnL : 1 < nL) (hts : ∀ w ∈ mTb, w.before args s = true) (hown : s.vm.findClass own = some m.cls) (hK : mKT G s) (hgK : gKT s)
    (hca : mCls ca C0 T0) (hk0 : k0 < mNs ca) (hlF : Cond.fieldLink own idF (T0 k0).1 (T0 k0).2.1 (T0 k0).2.2.1 ∈ mTb) (hfs : fs[k0]? = some (.ref (z + j0)))
    (hc : mCls c C T) (h1 : Cond.classLink own idN C ∈ mTb) (h2 : Cond.instantiable C (mNs c) ∈ mTb) (h3 : Cond.initialized C ∈ mTb) (ht : mTyL[t0]? = some (.object C))
    (hM : ∀ a z : Nat, gMet G l y cy ny rmy [] a z (.inr (c, gDef c)) (E1 z) (DS z)) (hE : ∀ q, ∃ vs, E1 q = .inr (c, vs)) (hw : ∀ q, (DS q).length + 1 = w) (hwc : rmy.cells + 1 = w) (hme : mMe y cy ny none 0) (hin : Cond.instanceMethod y ∈ mTb) (hlI : gLk own idI y) (hy1 : y.name = "<init>")
    (hN : N < 100) (hnb : (Int8.ofInt nb).toInt32 = nI N) (hn0 : cs0.length = n0) (hj0 : cs0[j0]? = some (.inl (G.2.1 (.object C), N, .inr (.inr (.inr (.inr (fun _ => none))))))) (hR : rmy.frames + 1 ≤ R.frames ∧ 8 + (ny + 11) + rmy.locals ≤ R.locals) (hcells : nc + w * N ≤ R.cells) (hslots : ns + (mNs c + rmy.slots) * N ≤ R.slots)
    (d0 : decode cc pc = .ok (.iload_n 1, 1)) (d1 : decode cc (pc + 1) = .ok (.bipush nb, 2)) (d3 : decode cc (pc + 3) = .ok (.if_icmp .ge 22, 3)) (d6 : decode cc (pc + 6) = .ok (.aload_n 0, 1)) (d7 : decode cc (pc + 7) = .ok (.getfield idF, 3)) (d10 : decode cc (pc + 10) = .ok (.iload_n 1, 1)) (d11 : decode cc (pc + 11) = .ok (.new idN, 3)) (d14 : decode cc (pc + 14) = .ok (.dup, 1)) (d15 : decode cc (pc + 15) = .ok (.invokespecial idI, 3)) (d18 : decode cc (pc + 18) = .ok (.aastore, 1)) (d19 : decode cc (pc + 19) = .ok (.iinc 1 1, 3)) (d22 : decode cc (pc + 22) = .ok (.goto (-22), 3))
    (kk : ∀ (H1 : Heap) (locs1 : List Loc) (ls1 : Array Slot), gW G z (some a) (.inr (ca, fs)) (cs0.set j0 (.inl (G.2.1 (.object C), N, .inr (.inr (.inr (.inr (gAr z n0 w N)))))) ++ gFl E1 DS z n0 w N) H1 → va_S (gA z (some a)) s.heap H1 locs1 → lv_has ls1 nL [(1, .int (nI N)), (0, .ref a)] → (cs0.set j0 (.inl (G.2.1 (.object C), N, .inr (.inr (.inr (.inr (gAr z n0 w N)))))) ++ gFl E1 DS z n0 w N).length = n0 + w * N → W p l e R s m args below meth c0 H1 locs1 (nc + w * N) (ns + (mNs c + rmy.slots) * N) Q (F0 m (pc + 25) ls1 [])) :
    ∀ (d i : Nat) (H : Heap) (locs : List Loc) (ls : Array Slot), i + d = N → gW G z (some a) (.inr (ca, fs)) (cs0.set j0 (.inl (G.2.1 (.object C), N, .inr (.inr (.inr (.inr (gAr z n0 w i)))))) ++ gFl E1 DS z n0 w i) H → va_S (gA z (some a)) s.heap H locs → lv_has ls nL [(1, .int (nI i)), (0, .ref a)] → W p l e R s m args below meth c0 H locs (nc + w * i) (ns + (mNs c + rmy.slots) * i) Q (F0 m pc ls []) := by
  have hjl : j0 < cs0.length := (List.getElem?_eq_some_iff.mp hj0).1
  have hN2 : N < 2 ^ 31 := by omega
  intro d
  induction d with
  | zero =>
    intro i H locs ls hi hg hS hl
    have hiN : i = N := by omega
    subst hiN
    refine lv_iload_n hx hb d0 rfl (lv_at hl 0 rfl) ?_
    refine lv_bipush hx hb d1 hnb ?_
    refine lv_icmp_ge (tgt := pc + 25) hx hb d3 (by omega) (fun _ => kk H locs ls hg hS hl (by rw [List.length_append, List.length_set, gFl_len hw, hn0])) (fun q => absurd (nI_le (Nat.le_refl i) hN2) q)
  | succ d ih =>
    intro i H locs ls hi hg hS hl
    have hlt : i < N := by omega
    have hmul : w * (i + 1) ≤ w * N := Nat.mul_le_mul_left _ (by omega)
    have hmul2 : (mNs c + rmy.slots) * (i + 1) ≤ (mNs c + rmy.slots) * N := Nat.mul_le_mul_left _ (by omega)
    have hlen : (cs0.set j0 (.inl (G.2.1 (.object C), N, .inr (.inr (.inr (.inr (gAr z n0 w i)))))) ++ gFl E1 DS z n0 w i).length = n0 + w * i := by
      rw [List.length_append, List.length_set, gFl_len hw, hn0]
    refine lv_iload_n hx hb d0 rfl (lv_at hl 0 rfl) ?_
    refine lv_bipush hx hb d1 hnb ?_
    refine lv_icmp_ge (tgt := pc + 25) hx hb d3 (by omega) (fun q => absurd q (nI_ge hlt hN2)) (fun _ => ?_)
    refine lv_aload_n hx hb d6 rfl (lv_at hl 1 rfl) ?_
    refine g_get hx hb hts hown hK hg hca hk0 hlF hfs d7 ?_
    refine lv_iload_n hx hb d10 rfl (lv_at hl 0 rfl) ?_
    refine g_new (n0 + w * i) hlen hx hb hts hown hK hg hS hc h1 h2 h3 (by rw [Nat.mul_succ] at hmul; omega) (by rw [Nat.mul_succ] at hmul2; omega) d11 (fun H hg hS => ?_)
    refine lv_dup hx hb d14 rfl ?_
    refine g_init (j := n0 + w * i) (n0 + w * i + 1) (by rw [List.length_append, hlen]; rfl) hx hb hml hts hown hK hgK hg hS hl.1 (hM _ _) hme hin hlI hy1 (by rw [List.getElem?_append_right (by omega), hlen, Nat.sub_self]; rfl) rfl rfl hR (Nat.le_of_ble_eq_true rfl) (by rw [Nat.mul_succ] at hmul; omega) (by rw [Nat.mul_succ] at hmul2; omega) d15 (fun H locs hg hS => ?_)
    have hset : (cs0.set j0 (.inl (G.2.1 (.object C), N, .inr (.inr (.inr (.inr (gAr z n0 w i)))))) ++ gFl E1 DS z n0 w i ++ [(.inr (c, gDef c) : va_E)]).set (n0 + w * i) (E1 (z + (n0 + w * i + 1))) ++ DS (z + (n0 + w * i + 1)) = cs0.set j0 (.inl (G.2.1 (.object C), N, .inr (.inr (.inr (.inr (gAr z n0 w i)))))) ++ gFl E1 DS z n0 w (i + 1) := by
      rw [List.set_append_right (n0 + w * i) _ (by omega), hlen, Nat.sub_self, gFl_succ]
      simp [Nat.add_assoc]
    rw [hset] at hg
    obtain ⟨vs, hvs⟩ := hE (z + (n0 + w * i) + 1)
    refine g_aast (v := n0 + w * i) (j := j0) (ci := c) (vs := vs) (r := (C, T, mNs c)) hx hb hK hg hS (by rw [List.getElem?_append_left (by rw [List.length_set]; exact hjl), List.getElem?_set_self hjl]) ht (by
      rw [gFl_succ, ← List.append_assoc, List.getElem?_append_right (by omega), hlen, Nat.sub_self, ← hvs]; rfl) hc.1 (nI_in hlt hN2) d18 (fun H locs hg hS => ?_)
    have hfe : va_up (gAr z n0 w i) i (some (z + (n0 + w * i))) = gAr z n0 w (i + 1) := by
      funext k
      unfold va_up gAr
      by_cases hk : k = i
      · subst hk
        simp
      · by_cases hk2 : k < i
        · simp [hk, hk2, Nat.lt_succ_of_lt hk2]
        · simp [hk, hk2, show ¬ k < i + 1 by omega]
    have hset2 : (cs0.set j0 (.inl (G.2.1 (.object C), N, .inr (.inr (.inr (.inr (gAr z n0 w i)))))) ++ gFl E1 DS z n0 w (i + 1)).set j0 (.inl (G.2.1 (.object C), N, .inr (.inr (.inr (.inr (va_up (gAr z n0 w i) (nI i).toNatClampNeg (some (z + (n0 + w * i))))))))) = cs0.set j0 (.inl (G.2.1 (.object C), N, .inr (.inr (.inr (.inr (gAr z n0 w (i + 1))))))) ++ gFl E1 DS z n0 w (i + 1) := by
      rw [List.set_append_left j0 _ (by rw [List.length_set]; exact hjl), List.set_set, nI_clamp (by omega)]
      rw [hfe]
    rw [hset2] at hg
    refine lv_iinc (k := 0) (v := nI (i + 1)) hx hb d19 hl rfl (nI_1 i) hnL rfl (fun ls hl => ?_)
    refine lv_goto (tgt := pc) hx hb d22 (by omega) ?_
    have z1 := ih (i + 1) H locs ls (by omega) hg hS hl
    rw [Nat.mul_succ, Nat.mul_succ] at z1
    have e1 : nc + w * i + 1 + rmy.cells = nc + (w * i + w) := by omega
    have e2 : ns + (mNs c + rmy.slots) * i + mNs c + rmy.slots = ns + ((mNs c + rmy.slots) * i + (mNs c + rmy.slots)) := by omega
    rw [e1, e2]
    exact z1
theorem g_loop0 {C : String} {T T0 : u_T} {C0 : String} {y : MethodName} {cy : ByteArray} {ny nL a c ca idF idN idI j0 t0 k0 N n0 w : Nat} {rmy : Room} {fs : List Value} {cs0 : List va_E} {E1 : Nat → va_E} {DS : Nat → List va_E} {nb : Int} (pc : Nat)
    (hx : p.tables.exec = Jvm.exec) (hb : c0.code = cc) (hml : c0.maxLocals = nL) (hnL : 1 < nL) (hts : ∀ w ∈ mTb, w.before args s = true) (hown : s.vm.findClass own = some m.cls) (hK : mKT G s) (hgK : gKT s)
    (hca : mCls ca C0 T0) (hk0 : k0 < mNs ca) (hlF : Cond.fieldLink own idF (T0 k0).1 (T0 k0).2.1 (T0 k0).2.2.1 ∈ mTb) (hfs : fs[k0]? = some (.ref (z + j0)))
    (hc : mCls c C T) (h1 : Cond.classLink own idN C ∈ mTb) (h2 : Cond.instantiable C (mNs c) ∈ mTb) (h3 : Cond.initialized C ∈ mTb) (ht : mTyL[t0]? = some (.object C))
    (hM : ∀ a z : Nat, gMet G l y cy ny rmy [] a z (.inr (c, gDef c)) (E1 z) (DS z)) (hE : ∀ q, ∃ vs, E1 q = .inr (c, vs)) (hw : ∀ q, (DS q).length + 1 = w) (hwc : rmy.cells + 1 = w) (hme : mMe y cy ny none 0) (hin : Cond.instanceMethod y ∈ mTb) (hlI : gLk own idI y) (hy1 : y.name = "<init>")
    (hN : N < 100) (hnb : (Int8.ofInt nb).toInt32 = nI N) (hn0 : cs0.length = n0) (hj0 : cs0[j0]? = some (.inl (G.2.1 (.object C), N, .inr (.inr (.inr (.inr (fun _ => none))))))) (hR : rmy.frames + 1 ≤ R.frames ∧ 8 + (ny + 11) + rmy.locals ≤ R.locals) (hcells : nc + w * N ≤ R.cells) (hslots : ns + (mNs c + rmy.slots) * N ≤ R.slots)
    (d0 : decode cc pc = .ok (.iload_n 1, 1)) (d1 : decode cc (pc + 1) = .ok (.bipush nb, 2)) (d3 : decode cc (pc + 3) = .ok (.if_icmp .ge 22, 3)) (d6 : decode cc (pc + 6) = .ok (.aload_n 0, 1)) (d7 : decode cc (pc + 7) = .ok (.getfield idF, 3)) (d10 : decode cc (pc + 10) = .ok (.iload_n 1, 1)) (d11 : decode cc (pc + 11) = .ok (.new idN, 3)) (d14 : decode cc (pc + 14) = .ok (.dup, 1)) (d15 : decode cc (pc + 15) = .ok (.invokespecial idI, 3)) (d18 : decode cc (pc + 18) = .ok (.aastore, 1)) (d19 : decode cc (pc + 19) = .ok (.iinc 1 1, 3)) (d22 : decode cc (pc + 22) = .ok (.goto (-22), 3))
    (kk : ∀ (H1 : Heap) (locs1 : List Loc) (ls1 : Array Slot), gW G z (some a) (.inr (ca, fs)) (cs0.set j0 (.inl (G.2.1 (.object C), N, .inr (.inr (.inr (.inr (gAr z n0 w N)))))) ++ gFl E1 DS z n0 w N) H1 → va_S (gA z (some a)) s.heap H1 locs1 → lv_has ls1 nL [(1, .int (nI N)), (0, .ref a)] → (cs0.set j0 (.inl (G.2.1 (.object C), N, .inr (.inr (.inr (.inr (gAr z n0 w N)))))) ++ gFl E1 DS z n0 w N).length = n0 + w * N → W p l e R s m args below meth c0 H1 locs1 (nc + w * N) (ns + (mNs c + rmy.slots) * N) Q (F0 m (pc + 25) ls1 []))
    (hg : gW G z (some a) (.inr (ca, fs)) cs0 H) (hS : va_S (gA z (some a)) s.heap H locs) (hl : lv_has ls nL [(1, .int (nI 0)), (0, .ref a)]) : W p l e R s m args below meth c0 H locs nc ns Q (F0 m pc ls []) := by
  have hjl : j0 < cs0.length := (List.getElem?_eq_some_iff.mp hj0).1
  have e0 : gAr z n0 w 0 = fun _ => none := by
    funext k
    simp [gAr]
  have e1 : cs0.set j0 (.inl (G.2.1 (.object C), N, .inr (.inr (.inr (.inr (gAr z n0 w 0)))))) ++ gFl E1 DS z n0 w 0 = cs0 := by
    rw [e0]
    have e2 : gFl E1 DS z n0 w 0 = [] := rfl
    rw [e2, List.append_nil]
    apply List.ext_getElem?
    intro k
    rcases Nat.decEq k j0 with e | e
    · rw [List.getElem?_set_ne (fun q => e q.symm)]
    · subst e
      rw [List.getElem?_set_self hjl, hj0]
  have key := g_loop pc hx hb hml hnL hts hown hK hgK hca hk0 hlF hfs hc h1 h2 h3 ht hM hE hw hwc hme hin hlI hy1 hN hnb hn0 hj0 hR hcells hslots d0 d1 d3 d6 d7 d10 d11 d14 d15 d18 d19 d22 kk N 0 H locs ls (by omega) (by rw [e1]; exact hg) hS hl
  exact key
end GF
