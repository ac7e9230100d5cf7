/-! ===== THE LAW FROM ITS ENTRY TO ITS LOOP ===== -/
theorem g_world {D : va_G} {aT : FieldType → ClassId} {z b : Nat} {H : Heap} (h : gC (gG D aT z b) z (gOr.map fun r => mE (gG D aT z b) h0 r.1 r.2) H) : mW (gG D aT z b) h0 H := by
  have ne : ∀ t i, i < mCn t → t ≠ 99 := fun t i hi e => by
    subst e
    exact absurd hi (Nat.not_lt_zero i)
  have ad : ∀ t i, i < mCn t → (gG D aT z b).2.2.1 t i = z + gIx t i := fun t i hi => if_neg (ne t i hi)
  refine ⟨fun t i hi => ?_, fun t i t' i' hi hi' e => ?_, fun t i hi => ?_⟩
  · rw [ad t i hi]
    exact h (gIx t i) _ (by rw [List.getElem?_map, gOr_ix (t, i) (mKeys_in hi)]; rfl)
  · rw [ad t i hi, ad t' i' hi'] at e
    have e2 : gIx t i = gIx t' i' := by omega
    have q1 := gOr_ix (t, i) (mKeys_in hi)
    have q2 := gOr_ix (t', i') (mKeys_in hi')
    have q3 : some (t, i) = some (t', i') := by
      rw [← q1, ← q2]
      show gOr[gIx t i]? = gOr[gIx t' i']?
      rw [e2]
    cases q3
    exact ⟨rfl, rfl⟩
  · rw [ad t i hi]
    exact Nat.le_add_right z _
theorem lc_8 : Cond.classLink RL 8 "DriverBook" ∈ mTb := by decide +kernel
theorem lc_18 : Cond.classLink RL 18 "DriverBookModel" ∈ mTb := by decide +kernel
theorem ni_i11 : Cond.instantiable "DriverBook" (mNs 11) ∈ mTb := by decide +kernel
theorem ni_i12 : Cond.instantiable "DriverBookModel" (mNs 12) ∈ mTb := by decide +kernel
theorem ni_n11 : Cond.initialized "DriverBook" ∈ mTb := by decide +kernel
theorem ni_n12 : Cond.initialized "DriverBookModel" ∈ mTb := by decide +kernel
theorem nl_RL_17 : gLk RL 17 yX11_init := Or.inl (by decide +kernel)
theorem nl_RL_20 : gLk RL 20 yX12_init := Or.inl (by decide +kernel)
theorem nw_tbl : ∀ w ∈ mNw, w ∈ lw_tbl ∧ w.onTables = true := by decide +kernel
theorem tb_tbl {w : Cond} (h : w ∈ mTb) : w ∈ lw_tbl := (List.mem_filter.mp h).1
theorem ao_tbl : Cond.arrayOver (.object "DriverBook$Act") ∈ lw_tbl ∧ Cond.arrayOver (.object "DriverBook$Field") ∈ lw_tbl ∧ Cond.arrayOver (.object "DriverBook$Law") ∈ lw_tbl ∧ Cond.arrayOver (.object "DriverBook$Tape") ∈ lw_tbl ∧ Cond.arrayOver (.array .int) ∈ lw_tbl := ⟨by decide +kernel, by decide +kernel, by decide +kernel, by decide +kernel, by decide +kernel⟩
theorem ac_tbl : Cond.arrayClass .int ∈ mTb ∧ Cond.arrayClass .long ∈ mTb ∧ Cond.arrayClass .boolean ∈ mTb := ⟨by decide +kernel, by decide +kernel, by decide +kernel⟩
theorem mCls_all : ∀ c, c < 13 → ∃ (C : String) (T : u_T), mCls c C T ∧ Cond.instantiable C (mNs c) ∈ mTb := by
  intro c hc
  match c, hc with
  | 0, _ => exact ⟨_, _, cls_0, ni_i0⟩
  | 1, _ => exact ⟨_, _, cls_1, ni_i1⟩
  | 2, _ => exact ⟨_, _, cls_2, ni_i2⟩
  | 3, _ => exact ⟨_, _, cls_3, ni_i3⟩
  | 4, _ => exact ⟨_, _, cls_4, ni_i4⟩
  | 5, _ => exact ⟨_, _, cls_5, ni_i5⟩
  | 6, _ => exact ⟨_, _, cls_6, ni_i6⟩
  | 7, _ => exact ⟨_, _, cls_7, ni_i7⟩
  | 8, _ => exact ⟨_, _, cls_8, ni_i8⟩
  | 9, _ => exact ⟨_, _, cls_9, ni_i9⟩
  | 10, _ => exact ⟨_, _, cls_10, ni_i10⟩
  | 11, _ => exact ⟨_, _, cls_11, ni_i11⟩
  | 12, _ => exact ⟨_, _, cls_12, ni_i12⟩
  | c + 13, h => omega
theorem mCl_len : mCl.length = 13 := rfl
/-- the tables' knowledge at the law's entry -/
theorem g_know {s : State} {args : Array Value} (hts : ∀ w ∈ lw_tbl, w.before args s = true) : ∃ (D : va_G) (aT : FieldType → ClassId), ∀ z b : Nat, mKT (gG D aT z b) s := by
  have h1 : ∀ c : Nat, ∃ q : ClassId × (Nat → Nat), ∀ r : vw_C, mCl[c]? = some r → u_Kn s r.1 r.2.1 r.2.2 q.1 q.2 := by
    intro c
    by_cases hc : c < 13
    · obtain ⟨C, T, hcl, hi⟩ := mCls_all c hc
      obtain ⟨cC, iS, hk⟩ := u_known (N := mNs c) (fun w hw => hts w (tb_tbl hw)) hcl.2.1 (hts _ (tb_tbl hi))
      refine ⟨(cC, iS), fun r hr => ?_⟩
      have e : r = (C, T, mNs c) := Option.some.inj (hr.symm.trans hcl.1)
      subst e
      exact hk
    · refine ⟨(0, fun _ => 0), fun r hr => ?_⟩
      have := (List.getElem?_eq_some_iff.mp hr).1
      rw [mCl_len] at this
      exact absurd this hc
  refine ⟨(fun c => (Classical.choose (h1 c)).1, fun c => (Classical.choose (h1 c)).2), fun ty => (s.vm.findClass ("[" ++ ty.toString)).getD 0, fun z b => ⟨⟨fun c r hr => Classical.choose_spec (h1 c) r hr, ?_⟩, fun w hw => va_Nw.of (nw_tbl w hw).2 (hts w (nw_tbl w hw).1)⟩⟩
  have prim : ∀ ty : FieldType, Cond.arrayClass ty ∈ mTb → (∀ (c : ClassId), s.vm.findClass ("[" ++ ty.toString) = some c → va_RA s c ty) → ArrOfT s ((s.vm.findClass ("[" ++ ty.toString)).getD 0) ty ∧ va_RA s ((s.vm.findClass ("[" ++ ty.toString)).getD 0) ty := by
    intro ty hw hra
    obtain ⟨c, k, comp, e1, e2, e3⟩ := Cond.arrayClass_spec (hts _ (tb_tbl hw))
    rw [e1]
    exact ⟨fun n z => ⟨fun k h => (by cases h), k, e2, comp, e3⟩, hra c e1⟩
  have obj : ∀ C : String, Cond.arrayOver (.object C) ∈ lw_tbl → ArrOfT s ((s.vm.findClass ("[" ++ (FieldType.object C).toString)).getD 0) (.object C) ∧ va_RA s ((s.vm.findClass ("[" ++ (FieldType.object C).toString)).getD 0) (.object C) := by
    intro C hw
    obtain ⟨comp, c, k, e1, -, e2, e3, e4⟩ := Cond.arrayOver_spec (hts _ hw)
    rw [e4]
    exact ⟨fun n z => ⟨fun k h => (by cases h), k, e2, comp, e3⟩, k, comp, e2, e3, e1, e4⟩
  intro k q hk
  match k, hk with
  | 0, hk => cases hk; exact prim .int ac_tbl.1 (fun _ h => h)
  | 1, hk => cases hk; exact prim .long ac_tbl.2.1 (fun _ h => h)
  | 2, hk => cases hk; exact prim .boolean ac_tbl.2.2 (fun _ h => h)
  | 3, hk =>
    cases hk
    obtain ⟨comp, c, k, e1, -, e2, e3, e4⟩ := arrayOverA_spec (hts _ ao_tbl.2.2.2.2)
    show ArrOfT s ((s.vm.findClass ("[" ++ (FieldType.array .int).toString)).getD 0) (.array .int) ∧ va_RA s ((s.vm.findClass ("[" ++ (FieldType.array .int).toString)).getD 0) (.array .int)
    rw [e4]
    exact ⟨fun n z => ⟨fun k h => (by cases h), k, e2, comp, e3⟩, e4⟩
  | 4, hk => cases hk; exact obj _ ao_tbl.1
  | 5, hk => cases hk; exact obj _ ao_tbl.2.1
  | 6, hk => cases hk; exact obj _ ao_tbl.2.2.1
  | 7, hk => cases hk; exact obj _ ao_tbl.2.2.2.1
  | k + 8, hk => exact absurd (List.getElem?_eq_some_iff.mp hk).1 (by show ¬ (k + 8 < 8); omega)
theorem g_kt {s : State} {args : Array Value} (hts : ∀ w ∈ lw_tbl, w.before args s = true) : gKT s := ⟨va_AO.of (hts _ ao_tbl.1), va_AO.of (hts _ ao_tbl.2.1), va_AO.of (hts _ ao_tbl.2.2.1), va_AO.of (hts _ ao_tbl.2.2.2.1), hts _ ao_tbl.2.2.2.2⟩
theorem th_tbl : Cond.laysStatic Bundle.tN "UNASSIGNED_STACK" Bundle.steD ∈ lw_tbl ∧ Cond.laysStatic Bundle.tN "SUPPRESSED_SENTINEL" Bundle.listD ∈ lw_tbl ∧ Cond.initialized Bundle.tN ∈ lw_tbl ∧ Cond.stringRef RX11 302 "no such tape" ∈ lw_tbl ∧ Cond.stringRef RX11 307 "no row with such a place" ∈ lw_tbl ∧ Cond.castable "java/lang/IllegalArgumentException" "java/lang/IllegalArgumentException" ∈ lw_tbl ∧ Cond.castable "java/lang/IllegalStateException" "java/lang/IllegalStateException" ∈ lw_tbl := ⟨by decide +kernel, by decide +kernel, by decide +kernel, by decide +kernel, by decide +kernel, by decide +kernel, by decide +kernel⟩
theorem th_tss : Cond.stringRef RX9 48 "laws were broken" ∈ lw_tbl := by decide +kernel
theorem th_dec : ∀ x ∈ mXd, Cond.declares x ∈ lw_tbl := by decide +kernel
theorem g_th {s : State} {args : Array Value} {D : va_G} {aT : FieldType → ClassId} {b : Nat} (hts : ∀ w ∈ lw_tbl, w.before args s = true) (hg : (Jvm.Cond.and given_1 narrow_1).before args s = true) : mTh (gG D aT s.heap.size b) s := by
  have hs := flat_of_before _ hg
  have hA : ∀ a : Nat, a < s.heap.size → ¬ mA (gG D aT s.heap.size b) a := fun a h z => by
    have z : s.heap.size ≤ a := z
    omega
  refine ⟨vx_Zqof (hts _ th_tbl.1) (hts _ th_tbl.2.2.1) (hs _ (by decide +kernel)) hA, vx_Zqof (hts _ th_tbl.2.1) (hts _ th_tbl.2.2.1) (hs _ (by decide +kernel)) hA, ?_, ?_, va_Nw.of rfl (hts _ th_tbl.2.2.2.2.2.1), va_Nw.of rfl (hts _ th_tbl.2.2.2.2.2.2), va_Nc.of (args := args) (hs _ (by decide +kernel)), fun x hx => va_Nw.of rfl (hts _ (th_dec x hx)), ?_⟩
  · obtain ⟨a, c, cell, k, e1, -⟩ := Cond.exactly_spec (hs (.exactly (.string RX11 302) "java/lang/String") (by decide +kernel))
    exact ⟨a, vk_R.of (hts _ th_tbl.2.2.2.1) e1⟩
  · obtain ⟨a, c, cell, k, e1, -⟩ := Cond.exactly_spec (hs (.exactly (.string RX11 307) "java/lang/String") (by decide +kernel))
    exact ⟨a, vk_R.of (hts _ th_tbl.2.2.2.2.1) e1⟩
  · obtain ⟨a, c, cell, k, e1, -⟩ := Cond.exactly_spec (hs (.exactly (.string RX9 48) "java/lang/String") (by decide +kernel))
    exact ⟨a, vk_R.of (hts _ th_tss) e1⟩
def f_law (sc : Nat → Int32) (n : Nat) : Nat → Int32 → mH → Option mH
  | 0, _, _ => none
  | d + 1, v, h => f_L_23 sc n (f_law sc n d) v h
theorem lwX_le {G : mG} {X : mX} {b n k k' : Nat} {sc : Nat → Int32} (h : lwX G X b n sc k) (hk : k' ≤ k) : lwX G X b n sc k' := by
  obtain ⟨p, l, e, R, s, m, args, below, meth, c, nc, ns, QQ⟩ := X
  obtain ⟨h1, h2, h3, h4, h5, h6, h7, h8, h9, h10⟩ := h
  exact ⟨h1, h2, h3, h4, h5, h6, h7, h8, ⟨by omega, by omega⟩, h10⟩
theorem sf_law {G : mG} {b n : Nat} {sc : Nat → Int32} : ∀ (d : Nat) (X : mX), lwX G X b n sc d → ∀ (v : Int32) (h : mH), lwS G X (f_law sc n d v h) 23 [(4, .inl v), (3, .inr (.inr (98, 0))), (2, .inr (.inr (12, 0))), (1, .inr (.inr (11, 0))), (0, .inr (.inr (99, 0)))] h := by
  intro d
  induction d with
  | zero =>
    intro X _ v h
    exact s_none
  | succ d ih =>
    intro X hX v h
    refine sf_L_23 (k := d) hX (fun X' hX' v h => ?_) v h
    rcases hX' with rfl | rfl
    · exact ih _ (lwX_le hX (Nat.le_succ d)) v h
    · exact ih _ (lwX_up hX) v h
theorem va_S_mono {A B : Nat → Prop} {H0 H : Heap} {locs : List Loc} (h : va_S A H0 H locs) (hAB : ∀ q, A q → B q) : va_S B H0 H locs := ⟨h.1, fun q h1 h2 => h.2.1 q h1 (fun z => h2 (hAB q z)), fun q hq => hAB _ (h.2.2 q hq)⟩
set_option maxHeartbeats 1000000 in
set_option maxRecDepth 100000 in
theorem start_of {p : Program} {e : Env} {s : State} {m : MethodId} {below : List Frame} {meth : Method} {c : Code} (l : Launch) (hl0 : l.stackTraces = false) {b L : Nat} {xs : Nat → Int32} (d : Nat) (hd : d ≤ 10000) (hpure : ∃ h', f_law xs L d 0 h0 = some h') (C0 : lw_At p s m meth c b L xs) : W p l e room_1 s m #[Value.ref b] below meth c s.heap [] 0 0 (lw_Z below #[Value.ref b] s) (entryFrame m ([Value.ref b] : List Value).toArray 8) := by
  obtain ⟨hx, hb, hr, hml, hown, hts0, hX, hbl, hlk, hgv⟩ := C0
  obtain ⟨h', hpure⟩ := hpure
  have hts : ∀ w ∈ mTb, w.before #[Value.ref b] s = true := fun w hw => hts0 w (tb_tbl hw)
  have hgK := g_kt hts0
  obtain ⟨D, aT, hK0⟩ := g_know hts0
  have hK := hK0 s.heap.size b
  have hT : mTh (gG D aT s.heap.size b) s := g_th hts0 hgv
  have hg : gW (gG D aT s.heap.size b) s.heap.size none (.inr (0, [])) [] s.heap := ⟨rfl, fun a h => (by cases h), fun j x h => (by cases h)⟩
  have hS : va_S (gA s.heap.size none) s.heap s.heap [] := va_S.rf
  generalize hz : s.heap.size = z at hg hS hK hT
  have hown : s.vm.findClass RL = some m.cls := hown
  have hcl : ([] : List va_E).length = 0 := rfl
  have hl := lv_entry ([.ref b]) (n := 8) (Nat.le_of_ble_eq_true rfl)
  rw [lg_entry_eq]
  generalize (lg_sl ([.ref b]) ++ List.replicate (8 - (lg_sl ([.ref b])).length) Slot.unset).toArray = ls at hl ⊢
  have hl : lv_has ls 8 [(0, .ref b)] := hl
  refine g_new (c := 11) 0 hcl hx hb hts hown hK hg hS cls_11 lc_8 ni_i11 ni_n11 (Nat.le_of_ble_eq_true rfl) (Nat.le_of_ble_eq_true rfl) dL_law_0 (fun H hg hS => ?_)
  refine lv_dup hx hb dL_law_3 rfl ?_
  refine g_initl 0 194 hcl (il_11 _ _) hx hb hml hts hown hK hgK hg hS hl.1 (ci_11 (gG D aT z b) l _ _) me_X11_init mi_X11_init nl_RL_17 rfl rfl rfl ⟨(Nat.le_of_ble_eq_true rfl), (Nat.le_of_ble_eq_true rfl)⟩ (Nat.le_of_ble_eq_true rfl) (Nat.le_of_ble_eq_true rfl) (Nat.le_of_ble_eq_true rfl) dL_law_4 (fun H locs hg hS hcl => ?_)
  refine lv_astore_n hx hb dL_law_7 (i := 1) rfl hl (by decide) rfl (fun ls hl => ?_)
  refine g_new (c := 12) 195 hcl hx hb hts hown hK hg hS cls_12 lc_18 ni_i12 ni_n12 (Nat.le_of_ble_eq_true rfl) (Nat.le_of_ble_eq_true rfl) dL_law_8 (fun H hg hS => ?_)
  refine lv_dup hx hb dL_law_11 rfl ?_
  refine g_initl 195 51 hcl (il_12 _ _) hx hb hml hts hown hK hgK hg hS hl.1 (ci_12 (gG D aT z b) l _ _) me_X12_init mi_X12_init nl_RL_20 rfl rfl rfl ⟨(Nat.le_of_ble_eq_true rfl), (Nat.le_of_ble_eq_true rfl)⟩ (Nat.le_of_ble_eq_true rfl) (Nat.le_of_ble_eq_true rfl) (Nat.le_of_ble_eq_true rfl) dL_law_12 (fun H locs hg hS hcl => ?_)
  refine lv_astore_n hx hb dL_law_15 (i := 2) rfl hl (by decide) rfl (fun ls hl => ?_)
  refine lv_iconst hx hb dL_law_16 (v := 1) (by decide) ?_
  refine g_newa (at_ := .long) (ty := .long) (N := 1) (t0 := 1) (a0 := (1, .inr (.inl fun _ => 0))) 247 hcl hx hb hts hK hg hS rfl ac_tbl.2.1 rfl (fun _ _ q => q) (fun _ => rfl) (by decide) (by decide) (by decide) (Nat.le_of_ble_eq_true rfl) (Nat.le_of_ble_eq_true rfl) dL_law_17 (fun H hg hS hcl => ?_)
  refine lv_astore_n hx hb dL_law_19 (i := 3) rfl hl (by decide) rfl (fun ls hl => ?_)
  refine lv_iconst hx hb dL_law_20 (v := 0) (by decide) ?_
  refine lv_istore hx hb dL_law_21 (i := 4) hl (by decide) rfl (fun ls hl => ?_)
  have hw : mW (gG D aT z b) h0 H := g_world (g_keys hg.2.2)
  have hS2 : va_S (mA (gG D aT z b)) s.heap H locs := va_S_mono hS (fun q h => by
    rcases h with h | h
    · exact h
    · cases h)
  have key := sf_law d (p, l, e, room_1, s, m, #[Value.ref b], below, meth, c, 248, 8011, fun _ => lw_Z below #[Value.ref b] s) (G := gG D aT z b) (b := b) (n := L) (sc := xs) ⟨hl0, hT, rfl, rfl, hX, hbl, rfl, hz.symm, ⟨by omega, by omega⟩, rfl⟩ 0 h0 h' hpure ⟨hx, hb, hml, hown, hts, hr, hlk, hK, rfl, ⟨by decide, by decide⟩, fun q => by cases q⟩ H locs ls hw hS2 hl (by
    intro q hq
    simp at hq
    rcases hq with rfl | rfl | rfl | rfl | rfl
    · trivial
    · exact Or.inl (by decide)
    · exact Or.inl (by decide)
    · exact Or.inl (by decide)
    · exact Or.inr rfl) (fun v hv => by cases hv)
  exact key
